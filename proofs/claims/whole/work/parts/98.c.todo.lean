/-! What is still to be shown. -/
theorem start_ok : START := by
  sorry
theorem all_ok : ALL := fun n m hn hI => ⟨P_0 hn hI, P_1 hn hI, P_2 hn hI, P_3 hn hI, P_4 hn hI, P_5 hn hI, P_6 hn hI, P_7 hn hI, P_8 hn hI, P_9 hn hI, P_10 hn hI, P_11 hn hI, P_12 hn hI, P_13 hn hI, P_14 hn hI, P_15 hn hI, P_16 hn hI, P_17 hn hI, P_18 hn hI, P_19 hn hI, P_20 hn hI, P_21 hn hI, P_22 hn hI, P_23 hn hI, P_24 hn hI, P_25 hn hI, P_26 hn hI, P_27 hn hI, P_28 hn hI, P_29 hn hI, P_30 hn hI, P_31 hn hI, P_32 hn hI, P_33 hn hI, P_34 hn hI, P_35 hn hI, P_36 hn hI, P_37 hn hI, P_38 hn hI, P_39 hn hI, P_40 hn hI, P_41 hn hI, P_42 hn hI, P_43 hn hI, P_44 hn hI, P_45 hn hI, P_46 hn hI⟩
theorem ev_law_holds : ev_law_ok := ev_law_of start_ok (step_ok all_ok)
