theorem us_SE : ∀ w ∈ u_ws R_SE F_SE 3, w ∈ am_T := am_ins (by decide +kernel) (by decide +kernel)
theorem us_Mo : ∀ w ∈ u_ws R_Mo F_Mo 12, w ∈ am_T := am_ins (by decide +kernel) (by decide +kernel)
theorem us_St : ∀ w ∈ u_ws R_St F_St 8, w ∈ am_T := am_ins (by decide +kernel) (by decide +kernel)
theorem us_Ex : ∀ w ∈ u_ws R_Ex F_Ex 11, w ∈ am_T := am_ins (by decide +kernel) (by decide +kernel)
theorem us_Dr : ∀ w ∈ u_ws R_Dr F_Dr 8, w ∈ am_T := am_ins (by decide +kernel) (by decide +kernel)
theorem us_RM : ∀ w ∈ u_ws R_RM F_RM 34, w ∈ am_T := am_ins (by decide +kernel) (by decide +kernel)
theorem wa_int : Cond.arrayClass .int ∈ am_T := am_in 110 (by decide +kernel) (by rfl)
theorem wa_long : Cond.arrayClass .long ∈ am_T := am_in 155 (by decide +kernel) (by rfl)
theorem wa_boolean : Cond.arrayClass .boolean ∈ am_T := am_in 713 (by decide +kernel) (by rfl)
theorem fd_Mo_9w : Cond.fieldLink R_Mo 9 (F_Mo 1).1 (F_Mo 1).2.1 (F_Mo 1).2.2.1 ∈ am_T := am_in 61 (by decide +kernel) (by rfl)
theorem fd_Mo_9 : am_fd R_Mo 9 1 1 := ⟨R_Mo, F_Mo, 12, rfl, by decide, fd_Mo_9w, us_Mo⟩
theorem fd_Mo_15w : Cond.fieldLink R_Mo 15 (F_Mo 2).1 (F_Mo 2).2.1 (F_Mo 2).2.2.1 ∈ am_T := am_in 63 (by decide +kernel) (by rfl)
theorem fd_Mo_15 : am_fd R_Mo 15 1 2 := ⟨R_Mo, F_Mo, 12, rfl, by decide, fd_Mo_15w, us_Mo⟩
theorem fd_Mo_21w : Cond.fieldLink R_Mo 21 (F_Mo 4).1 (F_Mo 4).2.1 (F_Mo 4).2.2.1 ∈ am_T := am_in 68 (by decide +kernel) (by rfl)
theorem fd_Mo_21 : am_fd R_Mo 21 1 4 := ⟨R_Mo, F_Mo, 12, rfl, by decide, fd_Mo_21w, us_Mo⟩
theorem fd_Mo_18w : Cond.fieldLink R_Mo 18 (F_Mo 3).1 (F_Mo 3).2.1 (F_Mo 3).2.2.1 ∈ am_T := am_in 65 (by decide +kernel) (by rfl)
theorem fd_Mo_18 : am_fd R_Mo 18 1 3 := ⟨R_Mo, F_Mo, 12, rfl, by decide, fd_Mo_18w, us_Mo⟩
theorem fd_Mo_25w : Cond.fieldLink R_Mo 25 (F_Mo 5).1 (F_Mo 5).2.1 (F_Mo 5).2.2.1 ∈ am_T := am_in 70 (by decide +kernel) (by rfl)
theorem fd_Mo_25 : am_fd R_Mo 25 1 5 := ⟨R_Mo, F_Mo, 12, rfl, by decide, fd_Mo_25w, us_Mo⟩
theorem fd_Mo_28w : Cond.fieldLink R_Mo 28 (F_Mo 6).1 (F_Mo 6).2.1 (F_Mo 6).2.2.1 ∈ am_T := am_in 73 (by decide +kernel) (by rfl)
theorem fd_Mo_28 : am_fd R_Mo 28 1 6 := ⟨R_Mo, F_Mo, 12, rfl, by decide, fd_Mo_28w, us_Mo⟩
theorem fd_Mo_40w : Cond.fieldLink R_Mo 40 (F_Mo 10).1 (F_Mo 10).2.1 (F_Mo 10).2.2.1 ∈ am_T := am_in 82 (by decide +kernel) (by rfl)
theorem fd_Mo_40 : am_fd R_Mo 40 1 10 := ⟨R_Mo, F_Mo, 12, rfl, by decide, fd_Mo_40w, us_Mo⟩
theorem fd_Mo_31w : Cond.fieldLink R_Mo 31 (F_Mo 7).1 (F_Mo 7).2.1 (F_Mo 7).2.2.1 ∈ am_T := am_in 75 (by decide +kernel) (by rfl)
theorem fd_Mo_31 : am_fd R_Mo 31 1 7 := ⟨R_Mo, F_Mo, 12, rfl, by decide, fd_Mo_31w, us_Mo⟩
theorem fd_Mo_34w : Cond.fieldLink R_Mo 34 (F_Mo 8).1 (F_Mo 8).2.1 (F_Mo 8).2.2.1 ∈ am_T := am_in 78 (by decide +kernel) (by rfl)
theorem fd_Mo_34 : am_fd R_Mo 34 1 8 := ⟨R_Mo, F_Mo, 12, rfl, by decide, fd_Mo_34w, us_Mo⟩
theorem fd_Mo_37w : Cond.fieldLink R_Mo 37 (F_Mo 9).1 (F_Mo 9).2.1 (F_Mo 9).2.2.1 ∈ am_T := am_in 80 (by decide +kernel) (by rfl)
theorem fd_Mo_37 : am_fd R_Mo 37 1 9 := ⟨R_Mo, F_Mo, 12, rfl, by decide, fd_Mo_37w, us_Mo⟩
theorem fd_Mo_47w : Cond.fieldLink R_Mo 47 (F_Mo 0).1 (F_Mo 0).2.1 (F_Mo 0).2.2.1 ∈ am_T := am_in 59 (by decide +kernel) (by rfl)
theorem fd_Mo_47 : am_fd R_Mo 47 1 0 := ⟨R_Mo, F_Mo, 12, rfl, by decide, fd_Mo_47w, us_Mo⟩
theorem fd_Mo_43w : Cond.fieldLink R_Mo 43 (F_Mo 11).1 (F_Mo 11).2.1 (F_Mo 11).2.2.1 ∈ am_T := am_in 84 (by decide +kernel) (by rfl)
theorem fd_Mo_43 : am_fd R_Mo 43 1 11 := ⟨R_Mo, F_Mo, 12, rfl, by decide, fd_Mo_43w, us_Mo⟩
theorem fd_Mo_50w : Cond.fieldLink R_Mo 50 (F_Dr 2).1 (F_Dr 2).2.1 (F_Dr 2).2.2.1 ∈ am_T := am_in 181 (by decide +kernel) (by rfl)
theorem fd_Mo_50 : am_fd R_Mo 50 4 2 := ⟨R_Dr, F_Dr, 8, rfl, by decide, fd_Mo_50w, us_Dr⟩
theorem fd_Dr_32w : Cond.fieldLink R_Dr 32 (F_Dr 0).1 (F_Dr 0).2.1 (F_Dr 0).2.2.1 ∈ am_T := am_in 176 (by decide +kernel) (by rfl)
theorem fd_Dr_32 : am_fd R_Dr 32 4 0 := ⟨R_Dr, F_Dr, 8, rfl, by decide, fd_Dr_32w, us_Dr⟩
theorem fd_Dr_9w : Cond.fieldLink R_Dr 9 (F_Dr 2).1 (F_Dr 2).2.1 (F_Dr 2).2.2.1 ∈ am_T := am_in 179 (by decide +kernel) (by rfl)
theorem fd_Dr_9 : am_fd R_Dr 9 4 2 := ⟨R_Dr, F_Dr, 8, rfl, by decide, fd_Dr_9w, us_Dr⟩
theorem fd_Dr_18w : Cond.fieldLink R_Dr 18 (F_Dr 4).1 (F_Dr 4).2.1 (F_Dr 4).2.2.1 ∈ am_T := am_in 184 (by decide +kernel) (by rfl)
theorem fd_Dr_18 : am_fd R_Dr 18 4 4 := ⟨R_Dr, F_Dr, 8, rfl, by decide, fd_Dr_18w, us_Dr⟩
theorem fd_Dr_15w : Cond.fieldLink R_Dr 15 (F_Dr 3).1 (F_Dr 3).2.1 (F_Dr 3).2.2.1 ∈ am_T := am_in 182 (by decide +kernel) (by rfl)
theorem fd_Dr_15 : am_fd R_Dr 15 4 3 := ⟨R_Dr, F_Dr, 8, rfl, by decide, fd_Dr_15w, us_Dr⟩
theorem fd_Dr_39w : Cond.fieldLink R_Dr 39 (F_Dr 1).1 (F_Dr 1).2.1 (F_Dr 1).2.2.1 ∈ am_T := am_in 177 (by decide +kernel) (by rfl)
theorem fd_Dr_39 : am_fd R_Dr 39 4 1 := ⟨R_Dr, F_Dr, 8, rfl, by decide, fd_Dr_39w, us_Dr⟩
theorem fd_Dr_22w : Cond.fieldLink R_Dr 22 (F_Dr 5).1 (F_Dr 5).2.1 (F_Dr 5).2.2.1 ∈ am_T := am_in 186 (by decide +kernel) (by rfl)
theorem fd_Dr_22 : am_fd R_Dr 22 4 5 := ⟨R_Dr, F_Dr, 8, rfl, by decide, fd_Dr_22w, us_Dr⟩
theorem fd_Dr_26w : Cond.fieldLink R_Dr 26 (F_Dr 6).1 (F_Dr 6).2.1 (F_Dr 6).2.2.1 ∈ am_T := am_in 189 (by decide +kernel) (by rfl)
theorem fd_Dr_26 : am_fd R_Dr 26 4 6 := ⟨R_Dr, F_Dr, 8, rfl, by decide, fd_Dr_26w, us_Dr⟩
theorem fd_Dr_29w : Cond.fieldLink R_Dr 29 (F_Dr 7).1 (F_Dr 7).2.1 (F_Dr 7).2.2.1 ∈ am_T := am_in 192 (by decide +kernel) (by rfl)
theorem fd_Dr_29 : am_fd R_Dr 29 4 7 := ⟨R_Dr, F_Dr, 8, rfl, by decide, fd_Dr_29w, us_Dr⟩
theorem fd_St_9w : Cond.fieldLink R_St 9 (F_St 0).1 (F_St 0).2.1 (F_St 0).2.2.1 ∈ am_T := am_in 120 (by decide +kernel) (by rfl)
theorem fd_St_9 : am_fd R_St 9 2 0 := ⟨R_St, F_St, 8, rfl, by decide, fd_St_9w, us_St⟩
theorem fd_St_15w : Cond.fieldLink R_St 15 (F_St 1).1 (F_St 1).2.1 (F_St 1).2.2.1 ∈ am_T := am_in 123 (by decide +kernel) (by rfl)
theorem fd_St_15 : am_fd R_St 15 2 1 := ⟨R_St, F_St, 8, rfl, by decide, fd_St_15w, us_St⟩
theorem fd_St_39w : Cond.fieldLink R_St 39 (F_St 7).1 (F_St 7).2.1 (F_St 7).2.2.1 ∈ am_T := am_in 137 (by decide +kernel) (by rfl)
theorem fd_St_39 : am_fd R_St 39 2 7 := ⟨R_St, F_St, 8, rfl, by decide, fd_St_39w, us_St⟩
theorem fd_St_19w : Cond.fieldLink R_St 19 (F_St 2).1 (F_St 2).2.1 (F_St 2).2.2.1 ∈ am_T := am_in 126 (by decide +kernel) (by rfl)
theorem fd_St_19 : am_fd R_St 19 2 2 := ⟨R_St, F_St, 8, rfl, by decide, fd_St_19w, us_St⟩
theorem fd_St_23w : Cond.fieldLink R_St 23 (F_St 3).1 (F_St 3).2.1 (F_St 3).2.2.1 ∈ am_T := am_in 128 (by decide +kernel) (by rfl)
theorem fd_St_23 : am_fd R_St 23 2 3 := ⟨R_St, F_St, 8, rfl, by decide, fd_St_23w, us_St⟩
theorem fd_St_50w : Cond.fieldLink R_St 50 (F_Dr 5).1 (F_Dr 5).2.1 (F_Dr 5).2.2.1 ∈ am_T := am_in 188 (by decide +kernel) (by rfl)
theorem fd_St_50 : am_fd R_St 50 4 5 := ⟨R_Dr, F_Dr, 8, rfl, by decide, fd_St_50w, us_Dr⟩
theorem fd_St_26w : Cond.fieldLink R_St 26 (F_St 4).1 (F_St 4).2.1 (F_St 4).2.2.1 ∈ am_T := am_in 130 (by decide +kernel) (by rfl)
theorem fd_St_26 : am_fd R_St 26 2 4 := ⟨R_St, F_St, 8, rfl, by decide, fd_St_26w, us_St⟩
theorem fd_St_29w : Cond.fieldLink R_St 29 (F_St 5).1 (F_St 5).2.1 (F_St 5).2.2.1 ∈ am_T := am_in 132 (by decide +kernel) (by rfl)
theorem fd_St_29 : am_fd R_St 29 2 5 := ⟨R_St, F_St, 8, rfl, by decide, fd_St_29w, us_St⟩
theorem fd_St_32w : Cond.fieldLink R_St 32 (F_St 6).1 (F_St 6).2.1 (F_St 6).2.2.1 ∈ am_T := am_in 135 (by decide +kernel) (by rfl)
theorem fd_St_32 : am_fd R_St 32 2 6 := ⟨R_St, F_St, 8, rfl, by decide, fd_St_32w, us_St⟩
theorem fd_St_60w : Cond.fieldLink R_St 60 (F_Dr 6).1 (F_Dr 6).2.1 (F_Dr 6).2.2.1 ∈ am_T := am_in 190 (by decide +kernel) (by rfl)
theorem fd_St_60 : am_fd R_St 60 4 6 := ⟨R_Dr, F_Dr, 8, rfl, by decide, fd_St_60w, us_Dr⟩
theorem fd_Ex_37w : Cond.fieldLink R_Ex 37 (F_Ex 1).1 (F_Ex 1).2.1 (F_Ex 1).2.2.1 ∈ am_T := am_in 211 (by decide +kernel) (by rfl)
theorem fd_Ex_37 : am_fd R_Ex 37 3 1 := ⟨R_Ex, F_Ex, 11, rfl, by decide, fd_Ex_37w, us_Ex⟩
theorem fd_Ex_63w : Cond.fieldLink R_Ex 63 (F_St 0).1 (F_St 0).2.1 (F_St 0).2.2.1 ∈ am_T := am_in 121 (by decide +kernel) (by rfl)
theorem fd_Ex_63 : am_fd R_Ex 63 2 0 := ⟨R_St, F_St, 8, rfl, by decide, fd_Ex_63w, us_St⟩
theorem fd_Ex_9w : Cond.fieldLink R_Ex 9 (F_Ex 2).1 (F_Ex 2).2.1 (F_Ex 2).2.2.1 ∈ am_T := am_in 212 (by decide +kernel) (by rfl)
theorem fd_Ex_9 : am_fd R_Ex 9 3 2 := ⟨R_Ex, F_Ex, 11, rfl, by decide, fd_Ex_9w, us_Ex⟩
theorem fd_Ex_15w : Cond.fieldLink R_Ex 15 (F_Ex 3).1 (F_Ex 3).2.1 (F_Ex 3).2.2.1 ∈ am_T := am_in 214 (by decide +kernel) (by rfl)
theorem fd_Ex_15 : am_fd R_Ex 15 3 3 := ⟨R_Ex, F_Ex, 11, rfl, by decide, fd_Ex_15w, us_Ex⟩
theorem fd_Ex_55w : Cond.fieldLink R_Ex 55 (F_Ex 10).1 (F_Ex 10).2.1 (F_Ex 10).2.2.1 ∈ am_T := am_in 226 (by decide +kernel) (by rfl)
theorem fd_Ex_55 : am_fd R_Ex 55 3 10 := ⟨R_Ex, F_Ex, 11, rfl, by decide, fd_Ex_55w, us_Ex⟩
theorem fd_Ex_79w : Cond.fieldLink R_Ex 79 (F_Dr 5).1 (F_Dr 5).2.1 (F_Dr 5).2.2.1 ∈ am_T := am_in 187 (by decide +kernel) (by rfl)
theorem fd_Ex_79 : am_fd R_Ex 79 4 5 := ⟨R_Dr, F_Dr, 8, rfl, by decide, fd_Ex_79w, us_Dr⟩
theorem fd_Ex_51w : Cond.fieldLink R_Ex 51 (F_Ex 9).1 (F_Ex 9).2.1 (F_Ex 9).2.2.1 ∈ am_T := am_in 225 (by decide +kernel) (by rfl)
theorem fd_Ex_51 : am_fd R_Ex 51 3 9 := ⟨R_Ex, F_Ex, 11, rfl, by decide, fd_Ex_51w, us_Ex⟩
theorem fd_Ex_91w : Cond.fieldLink R_Ex 91 (F_St 1).1 (F_St 1).2.1 (F_St 1).2.2.1 ∈ am_T := am_in 124 (by decide +kernel) (by rfl)
theorem fd_Ex_91 : am_fd R_Ex 91 2 1 := ⟨R_St, F_St, 8, rfl, by decide, fd_Ex_91w, us_St⟩
theorem fd_Ex_33w : Cond.fieldLink R_Ex 33 (F_Ex 0).1 (F_Ex 0).2.1 (F_Ex 0).2.2.1 ∈ am_T := am_in 210 (by decide +kernel) (by rfl)
theorem fd_Ex_33 : am_fd R_Ex 33 3 0 := ⟨R_Ex, F_Ex, 11, rfl, by decide, fd_Ex_33w, us_Ex⟩
theorem fd_Ex_43w : Cond.fieldLink R_Ex 43 (F_Mo 0).1 (F_Mo 0).2.1 (F_Mo 0).2.2.1 ∈ am_T := am_in 58 (by decide +kernel) (by rfl)
theorem fd_Ex_43 : am_fd R_Ex 43 1 0 := ⟨R_Mo, F_Mo, 12, rfl, by decide, fd_Ex_43w, us_Mo⟩
theorem fd_Ex_102w : Cond.fieldLink R_Ex 102 (F_St 5).1 (F_St 5).2.1 (F_St 5).2.2.1 ∈ am_T := am_in 133 (by decide +kernel) (by rfl)
theorem fd_Ex_102 : am_fd R_Ex 102 2 5 := ⟨R_St, F_St, 8, rfl, by decide, fd_Ex_102w, us_St⟩
theorem fd_Ex_30w : Cond.fieldLink R_Ex 30 (F_Ex 8).1 (F_Ex 8).2.1 (F_Ex 8).2.2.1 ∈ am_T := am_in 224 (by decide +kernel) (by rfl)
theorem fd_Ex_30 : am_fd R_Ex 30 3 8 := ⟨R_Ex, F_Ex, 11, rfl, by decide, fd_Ex_30w, us_Ex⟩
theorem fd_Ex_24w : Cond.fieldLink R_Ex 24 (F_Ex 6).1 (F_Ex 6).2.1 (F_Ex 6).2.2.1 ∈ am_T := am_in 220 (by decide +kernel) (by rfl)
theorem fd_Ex_24 : am_fd R_Ex 24 3 6 := ⟨R_Ex, F_Ex, 11, rfl, by decide, fd_Ex_24w, us_Ex⟩
theorem fd_Ex_95w : Cond.fieldLink R_Ex 95 (F_Mo 3).1 (F_Mo 3).2.1 (F_Mo 3).2.2.1 ∈ am_T := am_in 67 (by decide +kernel) (by rfl)
theorem fd_Ex_95 : am_fd R_Ex 95 1 3 := ⟨R_Mo, F_Mo, 12, rfl, by decide, fd_Ex_95w, us_Mo⟩
theorem fd_Ex_105w : Cond.fieldLink R_Ex 105 (F_Dr 2).1 (F_Dr 2).2.1 (F_Dr 2).2.2.1 ∈ am_T := am_in 180 (by decide +kernel) (by rfl)
theorem fd_Ex_105 : am_fd R_Ex 105 4 2 := ⟨R_Dr, F_Dr, 8, rfl, by decide, fd_Ex_105w, us_Dr⟩
theorem fd_Ex_108w : Cond.fieldLink R_Ex 108 (F_Mo 4).1 (F_Mo 4).2.1 (F_Mo 4).2.2.1 ∈ am_T := am_in 69 (by decide +kernel) (by rfl)
theorem fd_Ex_108 : am_fd R_Ex 108 1 4 := ⟨R_Mo, F_Mo, 12, rfl, by decide, fd_Ex_108w, us_Mo⟩
theorem fd_Ex_111w : Cond.fieldLink R_Ex 111 (F_Dr 4).1 (F_Dr 4).2.1 (F_Dr 4).2.2.1 ∈ am_T := am_in 185 (by decide +kernel) (by rfl)
theorem fd_Ex_111 : am_fd R_Ex 111 4 4 := ⟨R_Dr, F_Dr, 8, rfl, by decide, fd_Ex_111w, us_Dr⟩
theorem fd_Ex_112w : Cond.fieldLink R_Ex 112 (F_Mo 10).1 (F_Mo 10).2.1 (F_Mo 10).2.2.1 ∈ am_T := am_in 83 (by decide +kernel) (by rfl)
theorem fd_Ex_112 : am_fd R_Ex 112 1 10 := ⟨R_Mo, F_Mo, 12, rfl, by decide, fd_Ex_112w, us_Mo⟩
theorem fd_Ex_115w : Cond.fieldLink R_Ex 115 (F_Mo 5).1 (F_Mo 5).2.1 (F_Mo 5).2.2.1 ∈ am_T := am_in 72 (by decide +kernel) (by rfl)
theorem fd_Ex_115 : am_fd R_Ex 115 1 5 := ⟨R_Mo, F_Mo, 12, rfl, by decide, fd_Ex_115w, us_Mo⟩
theorem fd_Ex_121w : Cond.fieldLink R_Ex 121 (F_Dr 3).1 (F_Dr 3).2.1 (F_Dr 3).2.2.1 ∈ am_T := am_in 183 (by decide +kernel) (by rfl)
theorem fd_Ex_121 : am_fd R_Ex 121 4 3 := ⟨R_Dr, F_Dr, 8, rfl, by decide, fd_Ex_121w, us_Dr⟩
theorem fd_Ex_18w : Cond.fieldLink R_Ex 18 (F_Ex 4).1 (F_Ex 4).2.1 (F_Ex 4).2.2.1 ∈ am_T := am_in 216 (by decide +kernel) (by rfl)
theorem fd_Ex_18 : am_fd R_Ex 18 3 4 := ⟨R_Ex, F_Ex, 11, rfl, by decide, fd_Ex_18w, us_Ex⟩
theorem fd_Ex_128w : Cond.fieldLink R_Ex 128 (F_Mo 6).1 (F_Mo 6).2.1 (F_Mo 6).2.2.1 ∈ am_T := am_in 74 (by decide +kernel) (by rfl)
theorem fd_Ex_128 : am_fd R_Ex 128 1 6 := ⟨R_Mo, F_Mo, 12, rfl, by decide, fd_Ex_128w, us_Mo⟩
theorem fd_Ex_21w : Cond.fieldLink R_Ex 21 (F_Ex 5).1 (F_Ex 5).2.1 (F_Ex 5).2.2.1 ∈ am_T := am_in 218 (by decide +kernel) (by rfl)
theorem fd_Ex_21 : am_fd R_Ex 21 3 5 := ⟨R_Ex, F_Ex, 11, rfl, by decide, fd_Ex_21w, us_Ex⟩
theorem fd_Ex_145w : Cond.fieldLink R_Ex 145 (F_Mo 7).1 (F_Mo 7).2.1 (F_Mo 7).2.2.1 ∈ am_T := am_in 77 (by decide +kernel) (by rfl)
theorem fd_Ex_145 : am_fd R_Ex 145 1 7 := ⟨R_Mo, F_Mo, 12, rfl, by decide, fd_Ex_145w, us_Mo⟩
theorem fd_Ex_148w : Cond.fieldLink R_Ex 148 (F_Mo 9).1 (F_Mo 9).2.1 (F_Mo 9).2.2.1 ∈ am_T := am_in 81 (by decide +kernel) (by rfl)
theorem fd_Ex_148 : am_fd R_Ex 148 1 9 := ⟨R_Mo, F_Mo, 12, rfl, by decide, fd_Ex_148w, us_Mo⟩
theorem fd_Ex_151w : Cond.fieldLink R_Ex 151 (F_Mo 8).1 (F_Mo 8).2.1 (F_Mo 8).2.2.1 ∈ am_T := am_in 79 (by decide +kernel) (by rfl)
theorem fd_Ex_151 : am_fd R_Ex 151 1 8 := ⟨R_Mo, F_Mo, 12, rfl, by decide, fd_Ex_151w, us_Mo⟩
theorem fd_Ex_161w : Cond.fieldLink R_Ex 161 (F_Dr 6).1 (F_Dr 6).2.1 (F_Dr 6).2.2.1 ∈ am_T := am_in 191 (by decide +kernel) (by rfl)
theorem fd_Ex_161 : am_fd R_Ex 161 4 6 := ⟨R_Dr, F_Dr, 8, rfl, by decide, fd_Ex_161w, us_Dr⟩
theorem fd_Ex_27w : Cond.fieldLink R_Ex 27 (F_Ex 7).1 (F_Ex 7).2.1 (F_Ex 7).2.2.1 ∈ am_T := am_in 222 (by decide +kernel) (by rfl)
theorem fd_Ex_27 : am_fd R_Ex 27 3 7 := ⟨R_Ex, F_Ex, 11, rfl, by decide, fd_Ex_27w, us_Ex⟩
theorem fd_Ex_164w : Cond.fieldLink R_Ex 164 (F_Dr 1).1 (F_Dr 1).2.1 (F_Dr 1).2.2.1 ∈ am_T := am_in 178 (by decide +kernel) (by rfl)
theorem fd_Ex_164 : am_fd R_Ex 164 4 1 := ⟨R_Dr, F_Dr, 8, rfl, by decide, fd_Ex_164w, us_Dr⟩
theorem fd_SE_20w : Cond.fieldLink R_SE 20 (F_SE 0).1 (F_SE 0).2.1 (F_SE 0).2.2.1 ∈ am_T := am_in 250 (by decide +kernel) (by rfl)
theorem fd_SE_20 : am_fd R_SE 20 0 0 := ⟨R_SE, F_SE, 3, rfl, by decide, fd_SE_20w, us_SE⟩
theorem fd_SE_40w : Cond.fieldLink R_SE 40 (F_Mo 1).1 (F_Mo 1).2.1 (F_Mo 1).2.2.1 ∈ am_T := am_in 62 (by decide +kernel) (by rfl)
theorem fd_SE_40 : am_fd R_SE 40 1 1 := ⟨R_Mo, F_Mo, 12, rfl, by decide, fd_SE_40w, us_Mo⟩
theorem fd_SE_36w : Cond.fieldLink R_SE 36 (F_SE 2).1 (F_SE 2).2.1 (F_SE 2).2.2.1 ∈ am_T := am_in 252 (by decide +kernel) (by rfl)
theorem fd_SE_36 : am_fd R_SE 36 0 2 := ⟨R_SE, F_SE, 3, rfl, by decide, fd_SE_36w, us_SE⟩
theorem fd_SE_54w : Cond.fieldLink R_SE 54 (F_Mo 2).1 (F_Mo 2).2.1 (F_Mo 2).2.2.1 ∈ am_T := am_in 64 (by decide +kernel) (by rfl)
theorem fd_SE_54 : am_fd R_SE 54 1 2 := ⟨R_Mo, F_Mo, 12, rfl, by decide, fd_SE_54w, us_Mo⟩
theorem fd_SE_73w : Cond.fieldLink R_SE 73 (F_Mo 3).1 (F_Mo 3).2.1 (F_Mo 3).2.2.1 ∈ am_T := am_in 66 (by decide +kernel) (by rfl)
theorem fd_SE_73 : am_fd R_SE 73 1 3 := ⟨R_Mo, F_Mo, 12, rfl, by decide, fd_SE_73w, us_Mo⟩
theorem fd_SE_86w : Cond.fieldLink R_SE 86 (F_Mo 5).1 (F_Mo 5).2.1 (F_Mo 5).2.2.1 ∈ am_T := am_in 71 (by decide +kernel) (by rfl)
theorem fd_SE_86 : am_fd R_SE 86 1 5 := ⟨R_Mo, F_Mo, 12, rfl, by decide, fd_SE_86w, us_Mo⟩
theorem fd_SE_92w : Cond.fieldLink R_SE 92 (F_Mo 7).1 (F_Mo 7).2.1 (F_Mo 7).2.2.1 ∈ am_T := am_in 76 (by decide +kernel) (by rfl)
theorem fd_SE_92 : am_fd R_SE 92 1 7 := ⟨R_Mo, F_Mo, 12, rfl, by decide, fd_SE_92w, us_Mo⟩
theorem fd_SE_111w : Cond.fieldLink R_SE 111 (F_Ex 2).1 (F_Ex 2).2.1 (F_Ex 2).2.2.1 ∈ am_T := am_in 213 (by decide +kernel) (by rfl)
theorem fd_SE_111 : am_fd R_SE 111 3 2 := ⟨R_Ex, F_Ex, 11, rfl, by decide, fd_SE_111w, us_Ex⟩
theorem fd_SE_27w : Cond.fieldLink R_SE 27 (F_SE 1).1 (F_SE 1).2.1 (F_SE 1).2.2.1 ∈ am_T := am_in 251 (by decide +kernel) (by rfl)
theorem fd_SE_27 : am_fd R_SE 27 0 1 := ⟨R_SE, F_SE, 3, rfl, by decide, fd_SE_27w, us_SE⟩
theorem fd_SE_114w : Cond.fieldLink R_SE 114 (F_St 0).1 (F_St 0).2.1 (F_St 0).2.2.1 ∈ am_T := am_in 122 (by decide +kernel) (by rfl)
theorem fd_SE_114 : am_fd R_SE 114 2 0 := ⟨R_St, F_St, 8, rfl, by decide, fd_SE_114w, us_St⟩
theorem fd_SE_122w : Cond.fieldLink R_SE 122 (F_Mo 0).1 (F_Mo 0).2.1 (F_Mo 0).2.2.1 ∈ am_T := am_in 60 (by decide +kernel) (by rfl)
theorem fd_SE_122 : am_fd R_SE 122 1 0 := ⟨R_Mo, F_Mo, 12, rfl, by decide, fd_SE_122w, us_Mo⟩
theorem fd_SE_130w : Cond.fieldLink R_SE 130 (F_St 1).1 (F_St 1).2.1 (F_St 1).2.2.1 ∈ am_T := am_in 125 (by decide +kernel) (by rfl)
theorem fd_SE_130 : am_fd R_SE 130 2 1 := ⟨R_St, F_St, 8, rfl, by decide, fd_SE_130w, us_St⟩
theorem fd_SE_149w : Cond.fieldLink R_SE 149 (F_St 2).1 (F_St 2).2.1 (F_St 2).2.2.1 ∈ am_T := am_in 127 (by decide +kernel) (by rfl)
theorem fd_SE_149 : am_fd R_SE 149 2 2 := ⟨R_St, F_St, 8, rfl, by decide, fd_SE_149w, us_St⟩
theorem fd_SE_152w : Cond.fieldLink R_SE 152 (F_St 3).1 (F_St 3).2.1 (F_St 3).2.2.1 ∈ am_T := am_in 129 (by decide +kernel) (by rfl)
theorem fd_SE_152 : am_fd R_SE 152 2 3 := ⟨R_St, F_St, 8, rfl, by decide, fd_SE_152w, us_St⟩
theorem fd_SE_155w : Cond.fieldLink R_SE 155 (F_St 4).1 (F_St 4).2.1 (F_St 4).2.2.1 ∈ am_T := am_in 131 (by decide +kernel) (by rfl)
theorem fd_SE_155 : am_fd R_SE 155 2 4 := ⟨R_St, F_St, 8, rfl, by decide, fd_SE_155w, us_St⟩
theorem fd_SE_157w : Cond.fieldLink R_SE 157 (F_St 5).1 (F_St 5).2.1 (F_St 5).2.2.1 ∈ am_T := am_in 134 (by decide +kernel) (by rfl)
theorem fd_SE_157 : am_fd R_SE 157 2 5 := ⟨R_St, F_St, 8, rfl, by decide, fd_SE_157w, us_St⟩
theorem fd_SE_160w : Cond.fieldLink R_SE 160 (F_St 6).1 (F_St 6).2.1 (F_St 6).2.2.1 ∈ am_T := am_in 136 (by decide +kernel) (by rfl)
theorem fd_SE_160 : am_fd R_SE 160 2 6 := ⟨R_St, F_St, 8, rfl, by decide, fd_SE_160w, us_St⟩
theorem fd_SE_175w : Cond.fieldLink R_SE 175 (F_Ex 3).1 (F_Ex 3).2.1 (F_Ex 3).2.2.1 ∈ am_T := am_in 215 (by decide +kernel) (by rfl)
theorem fd_SE_175 : am_fd R_SE 175 3 3 := ⟨R_Ex, F_Ex, 11, rfl, by decide, fd_SE_175w, us_Ex⟩
theorem fd_SE_178w : Cond.fieldLink R_SE 178 (F_Ex 4).1 (F_Ex 4).2.1 (F_Ex 4).2.2.1 ∈ am_T := am_in 217 (by decide +kernel) (by rfl)
theorem fd_SE_178 : am_fd R_SE 178 3 4 := ⟨R_Ex, F_Ex, 11, rfl, by decide, fd_SE_178w, us_Ex⟩
theorem fd_SE_180w : Cond.fieldLink R_SE 180 (F_Ex 5).1 (F_Ex 5).2.1 (F_Ex 5).2.2.1 ∈ am_T := am_in 219 (by decide +kernel) (by rfl)
theorem fd_SE_180 : am_fd R_SE 180 3 5 := ⟨R_Ex, F_Ex, 11, rfl, by decide, fd_SE_180w, us_Ex⟩
theorem fd_SE_183w : Cond.fieldLink R_SE 183 (F_Ex 6).1 (F_Ex 6).2.1 (F_Ex 6).2.2.1 ∈ am_T := am_in 221 (by decide +kernel) (by rfl)
theorem fd_SE_183 : am_fd R_SE 183 3 6 := ⟨R_Ex, F_Ex, 11, rfl, by decide, fd_SE_183w, us_Ex⟩
theorem fd_SE_186w : Cond.fieldLink R_SE 186 (F_Ex 7).1 (F_Ex 7).2.1 (F_Ex 7).2.2.1 ∈ am_T := am_in 223 (by decide +kernel) (by rfl)
theorem fd_SE_186 : am_fd R_SE 186 3 7 := ⟨R_Ex, F_Ex, 11, rfl, by decide, fd_SE_186w, us_Ex⟩
theorem fd_RM_79w : Cond.fieldLink R_RM 79 (F_RM 0).1 (F_RM 0).2.1 (F_RM 0).2.2.1 ∈ am_T := am_in 610 (by decide +kernel) (by rfl)
theorem fd_RM_79 : am_fd R_RM 79 5 0 := ⟨R_RM, F_RM, 34, rfl, by decide, fd_RM_79w, us_RM⟩
theorem fd_RM_7w : Cond.fieldLink R_RM 7 (F_RM 3).1 (F_RM 3).2.1 (F_RM 3).2.2.1 ∈ am_T := am_in 613 (by decide +kernel) (by rfl)
theorem fd_RM_7 : am_fd R_RM 7 5 3 := ⟨R_RM, F_RM, 34, rfl, by decide, fd_RM_7w, us_RM⟩
theorem fd_RM_110w : Cond.fieldLink R_RM 110 (F_RM 4).1 (F_RM 4).2.1 (F_RM 4).2.2.1 ∈ am_T := am_in 614 (by decide +kernel) (by rfl)
theorem fd_RM_110 : am_fd R_RM 110 5 4 := ⟨R_RM, F_RM, 34, rfl, by decide, fd_RM_110w, us_RM⟩
theorem fd_RM_117w : Cond.fieldLink R_RM 117 (F_RM 5).1 (F_RM 5).2.1 (F_RM 5).2.2.1 ∈ am_T := am_in 615 (by decide +kernel) (by rfl)
theorem fd_RM_117 : am_fd R_RM 117 5 5 := ⟨R_RM, F_RM, 34, rfl, by decide, fd_RM_117w, us_RM⟩
theorem fd_RM_13w : Cond.fieldLink R_RM 13 (F_RM 6).1 (F_RM 6).2.1 (F_RM 6).2.2.1 ∈ am_T := am_in 616 (by decide +kernel) (by rfl)
theorem fd_RM_13 : am_fd R_RM 13 5 6 := ⟨R_RM, F_RM, 34, rfl, by decide, fd_RM_13w, us_RM⟩
theorem fd_RM_17w : Cond.fieldLink R_RM 17 (F_RM 7).1 (F_RM 7).2.1 (F_RM 7).2.2.1 ∈ am_T := am_in 617 (by decide +kernel) (by rfl)
theorem fd_RM_17 : am_fd R_RM 17 5 7 := ⟨R_RM, F_RM, 34, rfl, by decide, fd_RM_17w, us_RM⟩
theorem fd_RM_20w : Cond.fieldLink R_RM 20 (F_RM 8).1 (F_RM 8).2.1 (F_RM 8).2.2.1 ∈ am_T := am_in 618 (by decide +kernel) (by rfl)
theorem fd_RM_20 : am_fd R_RM 20 5 8 := ⟨R_RM, F_RM, 34, rfl, by decide, fd_RM_20w, us_RM⟩
theorem fd_RM_23w : Cond.fieldLink R_RM 23 (F_RM 9).1 (F_RM 9).2.1 (F_RM 9).2.2.1 ∈ am_T := am_in 619 (by decide +kernel) (by rfl)
theorem fd_RM_23 : am_fd R_RM 23 5 9 := ⟨R_RM, F_RM, 34, rfl, by decide, fd_RM_23w, us_RM⟩
theorem fd_RM_26w : Cond.fieldLink R_RM 26 (F_RM 10).1 (F_RM 10).2.1 (F_RM 10).2.2.1 ∈ am_T := am_in 620 (by decide +kernel) (by rfl)
theorem fd_RM_26 : am_fd R_RM 26 5 10 := ⟨R_RM, F_RM, 34, rfl, by decide, fd_RM_26w, us_RM⟩
theorem fd_RM_29w : Cond.fieldLink R_RM 29 (F_RM 11).1 (F_RM 11).2.1 (F_RM 11).2.2.1 ∈ am_T := am_in 621 (by decide +kernel) (by rfl)
theorem fd_RM_29 : am_fd R_RM 29 5 11 := ⟨R_RM, F_RM, 34, rfl, by decide, fd_RM_29w, us_RM⟩
theorem fd_RM_32w : Cond.fieldLink R_RM 32 (F_RM 12).1 (F_RM 12).2.1 (F_RM 12).2.2.1 ∈ am_T := am_in 622 (by decide +kernel) (by rfl)
theorem fd_RM_32 : am_fd R_RM 32 5 12 := ⟨R_RM, F_RM, 34, rfl, by decide, fd_RM_32w, us_RM⟩
theorem fd_RM_64w : Cond.fieldLink R_RM 64 (F_RM 30).1 (F_RM 30).2.1 (F_RM 30).2.2.1 ∈ am_T := am_in 640 (by decide +kernel) (by rfl)
theorem fd_RM_64 : am_fd R_RM 64 5 30 := ⟨R_RM, F_RM, 34, rfl, by decide, fd_RM_64w, us_RM⟩
theorem fd_RM_70w : Cond.fieldLink R_RM 70 (F_RM 1).1 (F_RM 1).2.1 (F_RM 1).2.2.1 ∈ am_T := am_in 611 (by decide +kernel) (by rfl)
theorem fd_RM_70 : am_fd R_RM 70 5 1 := ⟨R_RM, F_RM, 34, rfl, by decide, fd_RM_70w, us_RM⟩
theorem fd_RM_36w : Cond.fieldLink R_RM 36 (F_RM 13).1 (F_RM 13).2.1 (F_RM 13).2.2.1 ∈ am_T := am_in 623 (by decide +kernel) (by rfl)
theorem fd_RM_36 : am_fd R_RM 36 5 13 := ⟨R_RM, F_RM, 34, rfl, by decide, fd_RM_36w, us_RM⟩
theorem fd_RM_61w : Cond.fieldLink R_RM 61 (F_RM 29).1 (F_RM 29).2.1 (F_RM 29).2.2.1 ∈ am_T := am_in 639 (by decide +kernel) (by rfl)
theorem fd_RM_61 : am_fd R_RM 61 5 29 := ⟨R_RM, F_RM, 34, rfl, by decide, fd_RM_61w, us_RM⟩
theorem fd_RM_76w : Cond.fieldLink R_RM 76 (F_RM 14).1 (F_RM 14).2.1 (F_RM 14).2.2.1 ∈ am_T := am_in 624 (by decide +kernel) (by rfl)
theorem fd_RM_76 : am_fd R_RM 76 5 14 := ⟨R_RM, F_RM, 34, rfl, by decide, fd_RM_76w, us_RM⟩
theorem fd_RM_67w : Cond.fieldLink R_RM 67 (F_RM 31).1 (F_RM 31).2.1 (F_RM 31).2.2.1 ∈ am_T := am_in 641 (by decide +kernel) (by rfl)
theorem fd_RM_67 : am_fd R_RM 67 5 31 := ⟨R_RM, F_RM, 34, rfl, by decide, fd_RM_67w, us_RM⟩
theorem fd_RM_124w : Cond.fieldLink R_RM 124 (F_RM 32).1 (F_RM 32).2.1 (F_RM 32).2.2.1 ∈ am_T := am_in 642 (by decide +kernel) (by rfl)
theorem fd_RM_124 : am_fd R_RM 124 5 32 := ⟨R_RM, F_RM, 34, rfl, by decide, fd_RM_124w, us_RM⟩
theorem fd_RM_40w : Cond.fieldLink R_RM 40 (F_RM 22).1 (F_RM 22).2.1 (F_RM 22).2.2.1 ∈ am_T := am_in 632 (by decide +kernel) (by rfl)
theorem fd_RM_40 : am_fd R_RM 40 5 22 := ⟨R_RM, F_RM, 34, rfl, by decide, fd_RM_40w, us_RM⟩
theorem fd_RM_82w : Cond.fieldLink R_RM 82 (F_RM 15).1 (F_RM 15).2.1 (F_RM 15).2.2.1 ∈ am_T := am_in 625 (by decide +kernel) (by rfl)
theorem fd_RM_82 : am_fd R_RM 82 5 15 := ⟨R_RM, F_RM, 34, rfl, by decide, fd_RM_82w, us_RM⟩
theorem fd_RM_43w : Cond.fieldLink R_RM 43 (F_RM 23).1 (F_RM 23).2.1 (F_RM 23).2.2.1 ∈ am_T := am_in 633 (by decide +kernel) (by rfl)
theorem fd_RM_43 : am_fd R_RM 43 5 23 := ⟨R_RM, F_RM, 34, rfl, by decide, fd_RM_43w, us_RM⟩
theorem fd_RM_139w : Cond.fieldLink R_RM 139 (F_RM 33).1 (F_RM 33).2.1 (F_RM 33).2.2.1 ∈ am_T := am_in 643 (by decide +kernel) (by rfl)
theorem fd_RM_139 : am_fd R_RM 139 5 33 := ⟨R_RM, F_RM, 34, rfl, by decide, fd_RM_139w, us_RM⟩
theorem fd_RM_46w : Cond.fieldLink R_RM 46 (F_RM 24).1 (F_RM 24).2.1 (F_RM 24).2.2.1 ∈ am_T := am_in 634 (by decide +kernel) (by rfl)
theorem fd_RM_46 : am_fd R_RM 46 5 24 := ⟨R_RM, F_RM, 34, rfl, by decide, fd_RM_46w, us_RM⟩
theorem fd_RM_49w : Cond.fieldLink R_RM 49 (F_RM 25).1 (F_RM 25).2.1 (F_RM 25).2.2.1 ∈ am_T := am_in 635 (by decide +kernel) (by rfl)
theorem fd_RM_49 : am_fd R_RM 49 5 25 := ⟨R_RM, F_RM, 34, rfl, by decide, fd_RM_49w, us_RM⟩
theorem fd_RM_52w : Cond.fieldLink R_RM 52 (F_RM 26).1 (F_RM 26).2.1 (F_RM 26).2.2.1 ∈ am_T := am_in 636 (by decide +kernel) (by rfl)
theorem fd_RM_52 : am_fd R_RM 52 5 26 := ⟨R_RM, F_RM, 34, rfl, by decide, fd_RM_52w, us_RM⟩
theorem fd_RM_55w : Cond.fieldLink R_RM 55 (F_RM 27).1 (F_RM 27).2.1 (F_RM 27).2.2.1 ∈ am_T := am_in 637 (by decide +kernel) (by rfl)
theorem fd_RM_55 : am_fd R_RM 55 5 27 := ⟨R_RM, F_RM, 34, rfl, by decide, fd_RM_55w, us_RM⟩
theorem fd_RM_58w : Cond.fieldLink R_RM 58 (F_RM 28).1 (F_RM 28).2.1 (F_RM 28).2.2.1 ∈ am_T := am_in 638 (by decide +kernel) (by rfl)
theorem fd_RM_58 : am_fd R_RM 58 5 28 := ⟨R_RM, F_RM, 34, rfl, by decide, fd_RM_58w, us_RM⟩
theorem fd_RM_88w : Cond.fieldLink R_RM 88 (F_RM 17).1 (F_RM 17).2.1 (F_RM 17).2.2.1 ∈ am_T := am_in 627 (by decide +kernel) (by rfl)
theorem fd_RM_88 : am_fd R_RM 88 5 17 := ⟨R_RM, F_RM, 34, rfl, by decide, fd_RM_88w, us_RM⟩
theorem fd_RM_73w : Cond.fieldLink R_RM 73 (F_RM 2).1 (F_RM 2).2.1 (F_RM 2).2.2.1 ∈ am_T := am_in 612 (by decide +kernel) (by rfl)
theorem fd_RM_73 : am_fd R_RM 73 5 2 := ⟨R_RM, F_RM, 34, rfl, by decide, fd_RM_73w, us_RM⟩
theorem fd_RM_91w : Cond.fieldLink R_RM 91 (F_RM 18).1 (F_RM 18).2.1 (F_RM 18).2.2.1 ∈ am_T := am_in 628 (by decide +kernel) (by rfl)
theorem fd_RM_91 : am_fd R_RM 91 5 18 := ⟨R_RM, F_RM, 34, rfl, by decide, fd_RM_91w, us_RM⟩
theorem fd_RM_97w : Cond.fieldLink R_RM 97 (F_RM 20).1 (F_RM 20).2.1 (F_RM 20).2.2.1 ∈ am_T := am_in 630 (by decide +kernel) (by rfl)
theorem fd_RM_97 : am_fd R_RM 97 5 20 := ⟨R_RM, F_RM, 34, rfl, by decide, fd_RM_97w, us_RM⟩
theorem fd_RM_85w : Cond.fieldLink R_RM 85 (F_RM 16).1 (F_RM 16).2.1 (F_RM 16).2.2.1 ∈ am_T := am_in 626 (by decide +kernel) (by rfl)
theorem fd_RM_85 : am_fd R_RM 85 5 16 := ⟨R_RM, F_RM, 34, rfl, by decide, fd_RM_85w, us_RM⟩
theorem fd_RM_94w : Cond.fieldLink R_RM 94 (F_RM 19).1 (F_RM 19).2.1 (F_RM 19).2.2.1 ∈ am_T := am_in 629 (by decide +kernel) (by rfl)
theorem fd_RM_94 : am_fd R_RM 94 5 19 := ⟨R_RM, F_RM, 34, rfl, by decide, fd_RM_94w, us_RM⟩
theorem fd_RM_100w : Cond.fieldLink R_RM 100 (F_RM 21).1 (F_RM 21).2.1 (F_RM 21).2.2.1 ∈ am_T := am_in 631 (by decide +kernel) (by rfl)
theorem fd_RM_100 : am_fd R_RM 100 5 21 := ⟨R_RM, F_RM, 34, rfl, by decide, fd_RM_100w, us_RM⟩
theorem fp_Mo_18 : am_fp R_Mo 18 1 3 .int false := ⟨R_Mo, F_Mo, 12, t_Mo, rfl, by decide, fd_Mo_18w, us_Mo, t_Mo_ok, n_Mo, rfl, (fun h => nomatch h), by decide +kernel⟩
theorem fp_Mo_43 : am_fp R_Mo 43 1 11 .long false := ⟨R_Mo, F_Mo, 12, t_Mo, rfl, by decide, fd_Mo_43w, us_Mo, t_Mo_ok, n_Mo, rfl, (fun h => nomatch h), by decide +kernel⟩
theorem fp_Dr_18 : am_fp R_Dr 18 4 4 .int false := ⟨R_Dr, F_Dr, 8, t_Dr, rfl, by decide, fd_Dr_18w, us_Dr, t_Dr_ok, n_Dr, rfl, (fun h => nomatch h), by decide +kernel⟩
theorem fp_Dr_22 : am_fp R_Dr 22 4 5 .long false := ⟨R_Dr, F_Dr, 8, t_Dr, rfl, by decide, fd_Dr_22w, us_Dr, t_Dr_ok, n_Dr, rfl, (fun h => nomatch h), by decide +kernel⟩
theorem fp_Dr_26 : am_fp R_Dr 26 4 6 .int false := ⟨R_Dr, F_Dr, 8, t_Dr, rfl, by decide, fd_Dr_26w, us_Dr, t_Dr_ok, n_Dr, rfl, (fun h => nomatch h), by decide +kernel⟩
theorem fp_St_9 : am_fp R_St 9 2 0 .int false := ⟨R_St, F_St, 8, t_St, rfl, by decide, fd_St_9w, us_St, t_St_ok, n_St, rfl, (fun h => nomatch h), by decide +kernel⟩
theorem fp_Ex_9 : am_fp R_Ex 9 3 2 .int false := ⟨R_Ex, F_Ex, 11, t_Ex, rfl, by decide, fd_Ex_9w, us_Ex, t_Ex_ok, n_Ex, rfl, (fun h => nomatch h), by decide +kernel⟩
theorem fp_Ex_15 : am_fp R_Ex 15 3 3 .int false := ⟨R_Ex, F_Ex, 11, t_Ex, rfl, by decide, fd_Ex_15w, us_Ex, t_Ex_ok, n_Ex, rfl, (fun h => nomatch h), by decide +kernel⟩
theorem fp_Ex_18 : am_fp R_Ex 18 3 4 .int false := ⟨R_Ex, F_Ex, 11, t_Ex, rfl, by decide, fd_Ex_18w, us_Ex, t_Ex_ok, n_Ex, rfl, (fun h => nomatch h), by decide +kernel⟩
theorem fp_Ex_21 : am_fp R_Ex 21 3 5 .int false := ⟨R_Ex, F_Ex, 11, t_Ex, rfl, by decide, fd_Ex_21w, us_Ex, t_Ex_ok, n_Ex, rfl, (fun h => nomatch h), by decide +kernel⟩
theorem fp_Ex_24 : am_fp R_Ex 24 3 6 .int false := ⟨R_Ex, F_Ex, 11, t_Ex, rfl, by decide, fd_Ex_24w, us_Ex, t_Ex_ok, n_Ex, rfl, (fun h => nomatch h), by decide +kernel⟩
theorem fp_Ex_27 : am_fp R_Ex 27 3 7 .int false := ⟨R_Ex, F_Ex, 11, t_Ex, rfl, by decide, fd_Ex_27w, us_Ex, t_Ex_ok, n_Ex, rfl, (fun h => nomatch h), by decide +kernel⟩
theorem fp_Ex_30 : am_fp R_Ex 30 3 8 .int false := ⟨R_Ex, F_Ex, 11, t_Ex, rfl, by decide, fd_Ex_30w, us_Ex, t_Ex_ok, n_Ex, rfl, (fun h => nomatch h), by decide +kernel⟩
theorem fp_SE_40 : am_fp R_SE 40 1 1 .int false := ⟨R_Mo, F_Mo, 12, t_Mo, rfl, by decide, fd_SE_40w, us_Mo, t_Mo_ok, n_Mo, rfl, (fun h => nomatch h), by decide +kernel⟩
theorem fp_SE_54 : am_fp R_SE 54 1 2 .int false := ⟨R_Mo, F_Mo, 12, t_Mo, rfl, by decide, fd_SE_54w, us_Mo, t_Mo_ok, n_Mo, rfl, (fun h => nomatch h), by decide +kernel⟩
theorem fp_RM_79 : am_fp R_RM 79 5 0 .int false := ⟨R_RM, F_RM, 34, t_RM, rfl, by decide, fd_RM_79w, us_RM, t_RM_ok, n_RM, rfl, (fun h => nomatch h), by decide +kernel⟩
theorem fp_RM_82 : am_fp R_RM 82 5 15 .int false := ⟨R_RM, F_RM, 34, t_RM, rfl, by decide, fd_RM_82w, us_RM, t_RM_ok, n_RM, rfl, (fun h => nomatch h), by decide +kernel⟩
theorem fp_RM_85 : am_fp R_RM 85 5 16 .int false := ⟨R_RM, F_RM, 34, t_RM, rfl, by decide, fd_RM_85w, us_RM, t_RM_ok, n_RM, rfl, (fun h => nomatch h), by decide +kernel⟩
theorem fp_RM_88 : am_fp R_RM 88 5 17 .int false := ⟨R_RM, F_RM, 34, t_RM, rfl, by decide, fd_RM_88w, us_RM, t_RM_ok, n_RM, rfl, (fun h => nomatch h), by decide +kernel⟩
theorem fp_RM_91 : am_fp R_RM 91 5 18 .int false := ⟨R_RM, F_RM, 34, t_RM, rfl, by decide, fd_RM_91w, us_RM, t_RM_ok, n_RM, rfl, (fun h => nomatch h), by decide +kernel⟩
theorem fp_RM_94 : am_fp R_RM 94 5 19 .int false := ⟨R_RM, F_RM, 34, t_RM, rfl, by decide, fd_RM_94w, us_RM, t_RM_ok, n_RM, rfl, (fun h => nomatch h), by decide +kernel⟩
theorem fp_RM_97 : am_fp R_RM 97 5 20 .int false := ⟨R_RM, F_RM, 34, t_RM, rfl, by decide, fd_RM_97w, us_RM, t_RM_ok, n_RM, rfl, (fun h => nomatch h), by decide +kernel⟩
theorem fp_RM_100 : am_fp R_RM 100 5 21 .int false := ⟨R_RM, F_RM, 34, t_RM, rfl, by decide, fd_RM_100w, us_RM, t_RM_ok, n_RM, rfl, (fun h => nomatch h), by decide +kernel⟩
theorem fp_RM_7 : am_fp R_RM 7 5 3 .int false := ⟨R_RM, F_RM, 34, t_RM, rfl, by decide, fd_RM_7w, us_RM, t_RM_ok, n_RM, rfl, (fun h => nomatch h), by decide +kernel⟩
theorem fp_RM_110 : am_fp R_RM 110 5 4 .int false := ⟨R_RM, F_RM, 34, t_RM, rfl, by decide, fd_RM_110w, us_RM, t_RM_ok, n_RM, rfl, (fun h => nomatch h), by decide +kernel⟩
theorem fp_RM_117 : am_fp R_RM 117 5 5 .int false := ⟨R_RM, F_RM, 34, t_RM, rfl, by decide, fd_RM_117w, us_RM, t_RM_ok, n_RM, rfl, (fun h => nomatch h), by decide +kernel⟩
theorem fp_RM_124 : am_fp R_RM 124 5 32 .int false := ⟨R_RM, F_RM, 34, t_RM, rfl, by decide, fd_RM_124w, us_RM, t_RM_ok, n_RM, rfl, (fun h => nomatch h), by decide +kernel⟩
theorem fp_RM_139 : am_fp R_RM 139 5 33 .int false := ⟨R_RM, F_RM, 34, t_RM, rfl, by decide, fd_RM_139w, us_RM, t_RM_ok, n_RM, rfl, (fun h => nomatch h), by decide +kernel⟩
theorem wd_Dr_61 : Cond.constantLong R_Dr 61 9223372036854775807 ∈ am_T := am_in 290 (by decide +kernel) (by rfl)
theorem wd_St_48 : Cond.constantLong R_St 48 (-7046029254386353131) ∈ am_T := am_in 304 (by decide +kernel) (by rfl)
set_option maxRecDepth 20000 in
theorem cc_Mo_isBadPair : Cond.code y_Mo_isBadPair b_Mo_isBadPair 3 (some .boolean) ∈ am_T := am_in 324 (by rfl) (by rfl)
theorem cn_Mo : Cond.initialized R_Mo ∈ am_T := am_in 27 (by decide +kernel) (by rfl)
theorem ci_Mo_isBadPair : Cond.instanceMethod y_Mo_isBadPair ∈ am_T := am_in 322 (by decide +kernel) (by rfl)
theorem cs_Mo_isBadPair : Cond.selects y_Mo_isBadPair.cls y_Mo_isBadPair y_Mo_isBadPair ∈ am_T := am_in 323 (by decide +kernel) (by rfl)
theorem cl_Mo_54 : Cond.methodLink R_Mo 54 y_Mo_isBadPair ∈ am_T := am_in 321 (by decide +kernel) (by rfl)
theorem cb_Mo_54 : am_cB R_Mo 54 y_Mo_isBadPair b_Mo_isBadPair 3 (some .boolean) 2 := ⟨cl_Mo_54, cn_Mo, cc_Mo_isBadPair, ⟨by decide, by decide, by decide +kernel⟩, by decide⟩
set_option maxRecDepth 20000 in
theorem cc_SE_codeIn : Cond.code y_SE_codeIn b_SE_codeIn 3 (some .int) ∈ am_T := am_in 284 (by rfl) (by rfl)
theorem cn_SE : Cond.initialized R_SE ∈ am_T := am_in 26 (by decide +kernel) (by rfl)
theorem ct_SE_codeIn : Cond.static y_SE_codeIn ∈ am_T := am_in 283 (by decide +kernel) (by rfl)
theorem cl_SE_144 : Cond.methodLink R_SE 144 y_SE_codeIn ∈ am_T := am_in 282 (by decide +kernel) (by rfl)
theorem cb_SE_144 : am_cB R_SE 144 y_SE_codeIn b_SE_codeIn 3 (some .int) 2 := ⟨cl_SE_144, cn_SE, cc_SE_codeIn, ⟨by decide, by decide, by decide +kernel⟩, by decide⟩
set_option maxRecDepth 20000 in
theorem cc_SE_codesIn : Cond.code y_SE_codesIn b_SE_codesIn 3 (some .int) ∈ am_T := am_in 281 (by rfl) (by rfl)
theorem ct_SE_codesIn : Cond.static y_SE_codesIn ∈ am_T := am_in 280 (by decide +kernel) (by rfl)
theorem cb_Dr_46 : am_cN R_Dr 46 y_SE_codesIn R_SE b_SE_codesIn 3 (some .int) 1 := ⟨by decide +kernel, cn_SE, cc_SE_codesIn, ⟨by decide, by decide, by decide +kernel⟩, by decide⟩
set_option maxRecDepth 20000 in
theorem cc_SE_stateIn : Cond.code y_SE_stateIn b_SE_stateIn 3 (some .int) ∈ am_T := am_in 278 (by rfl) (by rfl)
theorem ct_SE_stateIn : Cond.static y_SE_stateIn ∈ am_T := am_in 277 (by decide +kernel) (by rfl)
theorem cb_Dr_42 : am_cN R_Dr 42 y_SE_stateIn R_SE b_SE_stateIn 3 (some .int) 2 := ⟨by decide +kernel, cn_SE, cc_SE_stateIn, ⟨by decide, by decide, by decide +kernel⟩, by decide⟩
theorem cb_Dr_50 : am_cN R_Dr 50 y_SE_codeIn R_SE b_SE_codeIn 3 (some .int) 2 := ⟨by decide +kernel, cn_SE, cc_SE_codeIn, ⟨by decide, by decide, by decide +kernel⟩, by decide⟩
set_option maxRecDepth 20000 in
theorem cc_Dr_statesBy : Cond.code y_Dr_statesBy b_Dr_statesBy 5 (some .long) ∈ am_T := am_in 295 (by rfl) (by rfl)
theorem cn_Dr : Cond.initialized R_Dr ∈ am_T := am_in 31 (by decide +kernel) (by rfl)
theorem ci_Dr_statesBy : Cond.instanceMethod y_Dr_statesBy ∈ am_T := am_in 294 (by decide +kernel) (by rfl)
theorem cs_Dr_statesBy : Cond.selects y_Dr_statesBy.cls y_Dr_statesBy y_Dr_statesBy ∈ am_T := am_in 1 (by decide +kernel) (by rfl)
theorem cl_Dr_66 : Cond.methodLink R_Dr 66 y_Dr_statesBy ∈ am_T := am_in 292 (by decide +kernel) (by rfl)
theorem cb_Dr_66 : am_cB R_Dr 66 y_Dr_statesBy b_Dr_statesBy 5 (some .long) 1 := ⟨cl_Dr_66, cn_Dr, cc_Dr_statesBy, ⟨by decide, by decide, by decide +kernel⟩, by decide⟩
set_option maxRecDepth 20000 in
theorem cc_Dr_codesBy : Cond.code y_Dr_codesBy b_Dr_codesBy 8 (some .long) ∈ am_T := am_in 299 (by rfl) (by rfl)
theorem ci_Dr_codesBy : Cond.instanceMethod y_Dr_codesBy ∈ am_T := am_in 298 (by decide +kernel) (by rfl)
theorem cs_Dr_codesBy : Cond.selects y_Dr_codesBy.cls y_Dr_codesBy y_Dr_codesBy ∈ am_T := am_in 2 (by decide +kernel) (by rfl)
theorem cl_Dr_70 : Cond.methodLink R_Dr 70 y_Dr_codesBy ∈ am_T := am_in 296 (by decide +kernel) (by rfl)
theorem cb_Dr_70 : am_cB R_Dr 70 y_Dr_codesBy b_Dr_codesBy 8 (some .long) 1 := ⟨cl_Dr_70, cn_Dr, cc_Dr_codesBy, ⟨by decide, by decide, by decide +kernel⟩, by decide⟩
set_option maxRecDepth 20000 in
theorem cc_Ar_fill : Cond.code y_Ar_fill b_Ar_fill 4 none ∈ am_T := am_in 465 (by rfl) (by rfl)
theorem cn_Ar : Cond.initialized R_Ar ∈ am_T := am_in 37 (by decide +kernel) (by rfl)
theorem ct_Ar_fill : Cond.static y_Ar_fill ∈ am_T := am_in 464 (by decide +kernel) (by rfl)
theorem cl_St_42 : Cond.methodLink R_St 42 y_Ar_fill ∈ am_T := am_in 463 (by decide +kernel) (by rfl)
theorem cb_St_42 : am_cB R_St 42 y_Ar_fill b_Ar_fill 4 none 2 := ⟨cl_St_42, cn_Ar, cc_Ar_fill, ⟨by decide, by decide, by decide +kernel⟩, by decide⟩
set_option maxRecDepth 20000 in
theorem cc_St_has : Cond.code y_St_has b_St_has 2 (some .boolean) ∈ am_T := am_in 316 (by rfl) (by rfl)
theorem cn_St : Cond.initialized R_St ∈ am_T := am_in 29 (by decide +kernel) (by rfl)
theorem ci_St_has : Cond.instanceMethod y_St_has ∈ am_T := am_in 314 (by decide +kernel) (by rfl)
theorem cs_St_has : Cond.selects y_St_has.cls y_St_has y_St_has ∈ am_T := am_in 315 (by decide +kernel) (by rfl)
theorem cl_St_56 : Cond.methodLink R_St 56 y_St_has ∈ am_T := am_in 313 (by decide +kernel) (by rfl)
theorem cb_St_56 : am_cB R_St 56 y_St_has b_St_has 2 (some .boolean) 1 := ⟨cl_St_56, cn_St, cc_St_has, ⟨by decide, by decide, by decide +kernel⟩, by decide⟩
set_option maxRecDepth 20000 in
theorem cc_St_clear : Cond.code y_St_clear b_St_clear 1 none ∈ am_T := am_in 462 (by rfl) (by rfl)
theorem ci_St_clear : Cond.instanceMethod y_St_clear ∈ am_T := am_in 460 (by decide +kernel) (by rfl)
theorem cs_St_clear : Cond.selects y_St_clear.cls y_St_clear y_St_clear ∈ am_T := am_in 461 (by decide +kernel) (by rfl)
theorem cl_Ex_58 : Cond.methodLink R_Ex 58 y_St_clear ∈ am_T := am_in 459 (by decide +kernel) (by rfl)
theorem cb_Ex_58 : am_cB R_Ex 58 y_St_clear b_St_clear 1 none 0 := ⟨cl_Ex_58, cn_St, cc_St_clear, ⟨by decide, by decide, by decide +kernel⟩, by decide⟩
set_option maxRecDepth 20000 in
theorem cc_Ex_begin : Cond.code y_Ex_begin b_Ex_begin 1 none ∈ am_T := am_in 271 (by rfl) (by rfl)
theorem cn_Ex : Cond.initialized R_Ex ∈ am_T := am_in 30 (by decide +kernel) (by rfl)
theorem ci_Ex_begin : Cond.instanceMethod y_Ex_begin ∈ am_T := am_in 270 (by decide +kernel) (by rfl)
theorem cs_Ex_begin : Cond.selects y_Ex_begin.cls y_Ex_begin y_Ex_begin ∈ am_T := am_in 0 (by decide +kernel) (by rfl)
theorem cl_Ex_66 : Cond.methodLink R_Ex 66 y_Ex_begin ∈ am_T := am_in 268 (by decide +kernel) (by rfl)
theorem cb_Ex_66 : am_cB R_Ex 66 y_Ex_begin b_Ex_begin 1 none 0 := ⟨cl_Ex_66, cn_Ex, cc_Ex_begin, ⟨by decide, by decide, by decide +kernel⟩, by decide⟩
set_option maxRecDepth 20000 in
theorem cc_Ex_goThrough : Cond.code y_Ex_goThrough b_Ex_goThrough 4 none ∈ am_T := am_in 328 (by rfl) (by rfl)
theorem ci_Ex_goThrough : Cond.instanceMethod y_Ex_goThrough ∈ am_T := am_in 327 (by decide +kernel) (by rfl)
theorem cs_Ex_goThrough : Cond.selects y_Ex_goThrough.cls y_Ex_goThrough y_Ex_goThrough ∈ am_T := am_in 4 (by decide +kernel) (by rfl)
theorem cl_Ex_69 : Cond.methodLink R_Ex 69 y_Ex_goThrough ∈ am_T := am_in 325 (by decide +kernel) (by rfl)
theorem cb_Ex_69 : am_cB R_Ex 69 y_Ex_goThrough b_Ex_goThrough 4 none 1 := ⟨cl_Ex_69, cn_Ex, cc_Ex_goThrough, ⟨by decide, by decide, by decide +kernel⟩, by decide⟩
set_option maxRecDepth 20000 in
theorem cc_Dr_load : Cond.code y_Dr_load b_Dr_load 4 none ∈ am_T := am_in 275 (by rfl) (by rfl)
theorem ci_Dr_load : Cond.instanceMethod y_Dr_load ∈ am_T := am_in 273 (by decide +kernel) (by rfl)
theorem cs_Dr_load : Cond.selects y_Dr_load.cls y_Dr_load y_Dr_load ∈ am_T := am_in 274 (by decide +kernel) (by rfl)
theorem cl_Ex_72 : Cond.methodLink R_Ex 72 y_Dr_load ∈ am_T := am_in 272 (by decide +kernel) (by rfl)
theorem cb_Ex_72 : am_cB R_Ex 72 y_Dr_load b_Dr_load 4 none 1 := ⟨cl_Ex_72, cn_Dr, cc_Dr_load, ⟨by decide, by decide, by decide +kernel⟩, by decide⟩
set_option maxRecDepth 20000 in
theorem cc_Dr_settle : Cond.code y_Dr_settle b_Dr_settle 6 none ∈ am_T := am_in 289 (by rfl) (by rfl)
theorem ci_Dr_settle : Cond.instanceMethod y_Dr_settle ∈ am_T := am_in 287 (by decide +kernel) (by rfl)
theorem cs_Dr_settle : Cond.selects y_Dr_settle.cls y_Dr_settle y_Dr_settle ∈ am_T := am_in 288 (by decide +kernel) (by rfl)
theorem cl_Ex_76 : Cond.methodLink R_Ex 76 y_Dr_settle ∈ am_T := am_in 286 (by decide +kernel) (by rfl)
theorem cb_Ex_76 : am_cB R_Ex 76 y_Dr_settle b_Dr_settle 6 none 0 := ⟨cl_Ex_76, cn_Dr, cc_Dr_settle, ⟨by decide, by decide, by decide +kernel⟩, by decide⟩
set_option maxRecDepth 20000 in
theorem cc_St_slotOf : Cond.code y_St_slotOf b_St_slotOf 6 (some .int) ∈ am_T := am_in 303 (by rfl) (by rfl)
theorem ci_St_slotOf : Cond.instanceMethod y_St_slotOf ∈ am_T := am_in 301 (by decide +kernel) (by rfl)
theorem cs_St_slotOf : Cond.selects y_St_slotOf.cls y_St_slotOf y_St_slotOf ∈ am_T := am_in 302 (by decide +kernel) (by rfl)
theorem cl_Ex_83 : Cond.methodLink R_Ex 83 y_St_slotOf ∈ am_T := am_in 300 (by decide +kernel) (by rfl)
theorem cb_Ex_83 : am_cB R_Ex 83 y_St_slotOf b_St_slotOf 6 (some .int) 1 := ⟨cl_Ex_83, cn_St, cc_St_slotOf, ⟨by decide, by decide, by decide +kernel⟩, by decide⟩
set_option maxRecDepth 20000 in
theorem cc_Ex_take : Cond.code y_Ex_take b_Ex_take 4 none ∈ am_T := am_in 308 (by rfl) (by rfl)
theorem ci_Ex_take : Cond.instanceMethod y_Ex_take ∈ am_T := am_in 307 (by decide +kernel) (by rfl)
theorem cs_Ex_take : Cond.selects y_Ex_take.cls y_Ex_take y_Ex_take ∈ am_T := am_in 3 (by decide +kernel) (by rfl)
theorem cl_Ex_87 : Cond.methodLink R_Ex 87 y_Ex_take ∈ am_T := am_in 305 (by decide +kernel) (by rfl)
theorem cb_Ex_87 : am_cB R_Ex 87 y_Ex_take b_Ex_take 4 none 3 := ⟨cl_Ex_87, cn_Ex, cc_Ex_take, ⟨by decide, by decide, by decide +kernel⟩, by decide⟩
set_option maxRecDepth 20000 in
theorem cc_Ex_tryRule : Cond.code y_Ex_tryRule b_Ex_tryRule 7 none ∈ am_T := am_in 332 (by rfl) (by rfl)
theorem ci_Ex_tryRule : Cond.instanceMethod y_Ex_tryRule ∈ am_T := am_in 331 (by decide +kernel) (by rfl)
theorem cs_Ex_tryRule : Cond.selects y_Ex_tryRule.cls y_Ex_tryRule y_Ex_tryRule ∈ am_T := am_in 5 (by decide +kernel) (by rfl)
theorem cl_Ex_98 : Cond.methodLink R_Ex 98 y_Ex_tryRule ∈ am_T := am_in 329 (by decide +kernel) (by rfl)
theorem cb_Ex_98 : am_cB R_Ex 98 y_Ex_tryRule b_Ex_tryRule 7 none 2 := ⟨cl_Ex_98, cn_Ex, cc_Ex_tryRule, ⟨by decide, by decide, by decide +kernel⟩, by decide⟩
set_option maxRecDepth 20000 in
theorem cc_Ex_makeStep : Cond.code y_Ex_makeStep b_Ex_makeStep 5 none ∈ am_T := am_in 336 (by rfl) (by rfl)
theorem ci_Ex_makeStep : Cond.instanceMethod y_Ex_makeStep ∈ am_T := am_in 335 (by decide +kernel) (by rfl)
theorem cs_Ex_makeStep : Cond.selects y_Ex_makeStep.cls y_Ex_makeStep y_Ex_makeStep ∈ am_T := am_in 6 (by decide +kernel) (by rfl)
theorem cl_Ex_118 : Cond.methodLink R_Ex 118 y_Ex_makeStep ∈ am_T := am_in 333 (by decide +kernel) (by rfl)
theorem cb_Ex_118 : am_cB R_Ex 118 y_Ex_makeStep b_Ex_makeStep 5 none 3 := ⟨cl_Ex_118, cn_Ex, cc_Ex_makeStep, ⟨by decide, by decide, by decide +kernel⟩, by decide⟩
set_option maxRecDepth 20000 in
theorem cc_Dr_copyOf : Cond.code y_Dr_copyOf b_Dr_copyOf 2 none ∈ am_T := am_in 340 (by rfl) (by rfl)
theorem ci_Dr_copyOf : Cond.instanceMethod y_Dr_copyOf ∈ am_T := am_in 338 (by decide +kernel) (by rfl)
theorem cs_Dr_copyOf : Cond.selects y_Dr_copyOf.cls y_Dr_copyOf y_Dr_copyOf ∈ am_T := am_in 339 (by decide +kernel) (by rfl)
theorem cl_Ex_124 : Cond.methodLink R_Ex 124 y_Dr_copyOf ∈ am_T := am_in 337 (by decide +kernel) (by rfl)
theorem cb_Ex_124 : am_cB R_Ex 124 y_Dr_copyOf b_Dr_copyOf 2 none 1 := ⟨cl_Ex_124, cn_Dr, cc_Dr_copyOf, ⟨by decide, by decide, by decide +kernel⟩, by decide⟩
set_option maxRecDepth 20000 in
theorem cc_Dr_removeCode : Cond.code y_Dr_removeCode b_Dr_removeCode 3 none ∈ am_T := am_in 347 (by rfl) (by rfl)
theorem ci_Dr_removeCode : Cond.instanceMethod y_Dr_removeCode ∈ am_T := am_in 345 (by decide +kernel) (by rfl)
theorem cs_Dr_removeCode : Cond.selects y_Dr_removeCode.cls y_Dr_removeCode y_Dr_removeCode ∈ am_T := am_in 346 (by decide +kernel) (by rfl)
theorem cl_Ex_131 : Cond.methodLink R_Ex 131 y_Dr_removeCode ∈ am_T := am_in 344 (by decide +kernel) (by rfl)
theorem cb_Ex_131 : am_cB R_Ex 131 y_Dr_removeCode b_Dr_removeCode 3 none 1 := ⟨cl_Ex_131, cn_Dr, cc_Dr_removeCode, ⟨by decide, by decide, by decide +kernel⟩, by decide⟩
set_option maxRecDepth 20000 in
theorem cc_Ex_send : Cond.code y_Ex_send b_Ex_send 7 none ∈ am_T := am_in 351 (by rfl) (by rfl)
theorem ci_Ex_send : Cond.instanceMethod y_Ex_send ∈ am_T := am_in 350 (by decide +kernel) (by rfl)
theorem cs_Ex_send : Cond.selects y_Ex_send.cls y_Ex_send y_Ex_send ∈ am_T := am_in 7 (by decide +kernel) (by rfl)
theorem cl_Ex_134 : Cond.methodLink R_Ex 134 y_Ex_send ∈ am_T := am_in 348 (by decide +kernel) (by rfl)
theorem cb_Ex_134 : am_cB R_Ex 134 y_Ex_send b_Ex_send 7 none 3 := ⟨cl_Ex_134, cn_Ex, cc_Ex_send, ⟨by decide, by decide, by decide +kernel⟩, by decide⟩
set_option maxRecDepth 20000 in
theorem cc_St_isTaken : Cond.code y_St_isTaken b_St_isTaken 2 (some .boolean) ∈ am_T := am_in 359 (by rfl) (by rfl)
theorem ci_St_isTaken : Cond.instanceMethod y_St_isTaken ∈ am_T := am_in 357 (by decide +kernel) (by rfl)
theorem cs_St_isTaken : Cond.selects y_St_isTaken.cls y_St_isTaken y_St_isTaken ∈ am_T := am_in 358 (by decide +kernel) (by rfl)
theorem cl_Ex_137 : Cond.methodLink R_Ex 137 y_St_isTaken ∈ am_T := am_in 356 (by decide +kernel) (by rfl)
theorem cb_Ex_137 : am_cB R_Ex 137 y_St_isTaken b_St_isTaken 2 (some .boolean) 1 := ⟨cl_Ex_137, cn_St, cc_St_isTaken, ⟨by decide, by decide, by decide +kernel⟩, by decide⟩
set_option maxRecDepth 20000 in
theorem cc_St_isFull : Cond.code y_St_isFull b_St_isFull 1 (some .boolean) ∈ am_T := am_in 363 (by rfl) (by rfl)
theorem ci_St_isFull : Cond.instanceMethod y_St_isFull ∈ am_T := am_in 361 (by decide +kernel) (by rfl)
theorem cs_St_isFull : Cond.selects y_St_isFull.cls y_St_isFull y_St_isFull ∈ am_T := am_in 362 (by decide +kernel) (by rfl)
theorem cl_Ex_141 : Cond.methodLink R_Ex 141 y_St_isFull ∈ am_T := am_in 360 (by decide +kernel) (by rfl)
theorem cb_Ex_141 : am_cB R_Ex 141 y_St_isFull b_St_isFull 1 (some .boolean) 0 := ⟨cl_Ex_141, cn_St, cc_St_isFull, ⟨by decide, by decide, by decide +kernel⟩, by decide⟩
set_option maxRecDepth 20000 in
theorem cc_Dr_addCode : Cond.code y_Dr_addCode b_Dr_addCode 4 none ∈ am_T := am_in 355 (by rfl) (by rfl)
theorem ci_Dr_addCode : Cond.instanceMethod y_Dr_addCode ∈ am_T := am_in 353 (by decide +kernel) (by rfl)
theorem cs_Dr_addCode : Cond.selects y_Dr_addCode.cls y_Dr_addCode y_Dr_addCode ∈ am_T := am_in 354 (by decide +kernel) (by rfl)
theorem cl_Ex_154 : Cond.methodLink R_Ex 154 y_Dr_addCode ∈ am_T := am_in 352 (by decide +kernel) (by rfl)
theorem cb_Ex_154 : am_cB R_Ex 154 y_Dr_addCode b_Dr_addCode 4 none 3 := ⟨cl_Ex_154, cn_Dr, cc_Dr_addCode, ⟨by decide, by decide, by decide +kernel⟩, by decide⟩
set_option maxRecDepth 20000 in
theorem cc_St_add : Cond.code y_St_add b_St_add 5 none ∈ am_T := am_in 312 (by rfl) (by rfl)
theorem ci_St_add : Cond.instanceMethod y_St_add ∈ am_T := am_in 310 (by decide +kernel) (by rfl)
theorem cs_St_add : Cond.selects y_St_add.cls y_St_add y_St_add ∈ am_T := am_in 311 (by decide +kernel) (by rfl)
theorem cl_Ex_157 : Cond.methodLink R_Ex 157 y_St_add ∈ am_T := am_in 309 (by decide +kernel) (by rfl)
theorem cb_Ex_157 : am_cB R_Ex 157 y_St_add b_St_add 5 none 4 := ⟨cl_Ex_157, cn_St, cc_St_add, ⟨by decide, by decide, by decide +kernel⟩, by decide⟩
set_option maxRecDepth 20000 in
theorem cc_Mo_isBadWhole : Cond.code y_Mo_isBadWhole b_Mo_isBadWhole 4 (some .boolean) ∈ am_T := am_in 320 (by rfl) (by rfl)
theorem ci_Mo_isBadWhole : Cond.instanceMethod y_Mo_isBadWhole ∈ am_T := am_in 318 (by decide +kernel) (by rfl)
theorem cs_Mo_isBadWhole : Cond.selects y_Mo_isBadWhole.cls y_Mo_isBadWhole y_Mo_isBadWhole ∈ am_T := am_in 319 (by decide +kernel) (by rfl)
theorem cl_Ex_167 : Cond.methodLink R_Ex 167 y_Mo_isBadWhole ∈ am_T := am_in 317 (by decide +kernel) (by rfl)
theorem cb_Ex_167 : am_cB R_Ex 167 y_Mo_isBadWhole b_Mo_isBadWhole 4 (some .boolean) 1 := ⟨cl_Ex_167, cn_Mo, cc_Mo_isBadWhole, ⟨by decide, by decide, by decide +kernel⟩, by decide⟩
set_option maxRecDepth 20000 in
theorem cc_Ex_forget : Cond.code y_Ex_forget b_Ex_forget 1 none ∈ am_T := am_in 458 (by rfl) (by rfl)
theorem ci_Ex_forget : Cond.instanceMethod y_Ex_forget ∈ am_T := am_in 456 (by decide +kernel) (by rfl)
theorem cs_Ex_forget : Cond.selects y_Ex_forget.cls y_Ex_forget y_Ex_forget ∈ am_T := am_in 457 (by decide +kernel) (by rfl)
theorem cl_SE_51 : Cond.methodLink R_SE 51 y_Ex_forget ∈ am_T := am_in 455 (by decide +kernel) (by rfl)
theorem cb_SE_51 : am_cB R_SE 51 y_Ex_forget b_Ex_forget 1 none 0 := ⟨cl_SE_51, cn_Ex, cc_Ex_forget, ⟨by decide, by decide, by decide +kernel⟩, by decide⟩
set_option maxRecDepth 20000 in
theorem cc_Mo_hasState : Cond.code y_Mo_hasState b_Mo_hasState 2 (some .boolean) ∈ am_T := am_in 485 (by rfl) (by rfl)
theorem ci_Mo_hasState : Cond.instanceMethod y_Mo_hasState ∈ am_T := am_in 483 (by decide +kernel) (by rfl)
theorem cs_Mo_hasState : Cond.selects y_Mo_hasState.cls y_Mo_hasState y_Mo_hasState ∈ am_T := am_in 484 (by decide +kernel) (by rfl)
theorem cl_SE_59 : Cond.methodLink R_SE 59 y_Mo_hasState ∈ am_T := am_in 482 (by decide +kernel) (by rfl)
theorem cb_SE_59 : am_cB R_SE 59 y_Mo_hasState b_Mo_hasState 2 (some .boolean) 1 := ⟨cl_SE_59, cn_Mo, cc_Mo_hasState, ⟨by decide, by decide, by decide +kernel⟩, by decide⟩
set_option maxRecDepth 20000 in
theorem cc_Mo_hasKind : Cond.code y_Mo_hasKind b_Mo_hasKind 2 (some .boolean) ∈ am_T := am_in 505 (by rfl) (by rfl)
theorem ci_Mo_hasKind : Cond.instanceMethod y_Mo_hasKind ∈ am_T := am_in 503 (by decide +kernel) (by rfl)
theorem cs_Mo_hasKind : Cond.selects y_Mo_hasKind.cls y_Mo_hasKind y_Mo_hasKind ∈ am_T := am_in 504 (by decide +kernel) (by rfl)
theorem cl_SE_68 : Cond.methodLink R_SE 68 y_Mo_hasKind ∈ am_T := am_in 502 (by decide +kernel) (by rfl)
theorem cb_SE_68 : am_cB R_SE 68 y_Mo_hasKind b_Mo_hasKind 2 (some .boolean) 1 := ⟨cl_SE_68, cn_Mo, cc_Mo_hasKind, ⟨by decide, by decide, by decide +kernel⟩, by decide⟩
set_option maxRecDepth 20000 in
theorem cc_Mo_addRule : Cond.code y_Mo_addRule b_Mo_addRule 4 (some .int) ∈ am_T := am_in 511 (by rfl) (by rfl)
theorem ci_Mo_addRule : Cond.instanceMethod y_Mo_addRule ∈ am_T := am_in 509 (by decide +kernel) (by rfl)
theorem cs_Mo_addRule : Cond.selects y_Mo_addRule.cls y_Mo_addRule y_Mo_addRule ∈ am_T := am_in 510 (by decide +kernel) (by rfl)
theorem cl_SE_78 : Cond.methodLink R_SE 78 y_Mo_addRule ∈ am_T := am_in 508 (by decide +kernel) (by rfl)
theorem cb_SE_78 : am_cB R_SE 78 y_Mo_addRule b_Mo_addRule 4 (some .int) 3 := ⟨cl_SE_78, cn_Mo, cc_Mo_addRule, ⟨by decide, by decide, by decide +kernel⟩, by decide⟩
set_option maxRecDepth 20000 in
theorem cc_Mo_addSend : Cond.code y_Mo_addSend b_Mo_addSend 5 (some .int) ∈ am_T := am_in 526 (by rfl) (by rfl)
theorem ci_Mo_addSend : Cond.instanceMethod y_Mo_addSend ∈ am_T := am_in 524 (by decide +kernel) (by rfl)
theorem cs_Mo_addSend : Cond.selects y_Mo_addSend.cls y_Mo_addSend y_Mo_addSend ∈ am_T := am_in 525 (by decide +kernel) (by rfl)
theorem cl_SE_97 : Cond.methodLink R_SE 97 y_Mo_addSend ∈ am_T := am_in 523 (by decide +kernel) (by rfl)
theorem cb_SE_97 : am_cB R_SE 97 y_Mo_addSend b_Mo_addSend 5 (some .int) 3 := ⟨cl_SE_97, cn_Mo, cc_Mo_addSend, ⟨by decide, by decide, by decide +kernel⟩, by decide⟩
theorem cl_SE_100 : Cond.methodLink R_SE 100 y_Mo_isBadPair ∈ am_T := am_in 534 (by decide +kernel) (by rfl)
theorem cb_SE_100 : am_cB R_SE 100 y_Mo_isBadPair b_Mo_isBadPair 3 (some .boolean) 2 := ⟨cl_SE_100, cn_Mo, cc_Mo_isBadPair, ⟨by decide, by decide, by decide +kernel⟩, by decide⟩
set_option maxRecDepth 20000 in
theorem cc_Mo_addBadPair : Cond.code y_Mo_addBadPair b_Mo_addBadPair 3 none ∈ am_T := am_in 538 (by rfl) (by rfl)
theorem ci_Mo_addBadPair : Cond.instanceMethod y_Mo_addBadPair ∈ am_T := am_in 536 (by decide +kernel) (by rfl)
theorem cs_Mo_addBadPair : Cond.selects y_Mo_addBadPair.cls y_Mo_addBadPair y_Mo_addBadPair ∈ am_T := am_in 537 (by decide +kernel) (by rfl)
theorem cl_SE_104 : Cond.methodLink R_SE 104 y_Mo_addBadPair ∈ am_T := am_in 535 (by decide +kernel) (by rfl)
theorem cb_SE_104 : am_cB R_SE 104 y_Mo_addBadPair b_Mo_addBadPair 3 none 2 := ⟨cl_SE_104, cn_Mo, cc_Mo_addBadPair, ⟨by decide, by decide, by decide +kernel⟩, by decide⟩
set_option maxRecDepth 20000 in
theorem cc_Ex_goOn : Cond.code y_Ex_goOn b_Ex_goOn 3 none ∈ am_T := am_in 267 (by rfl) (by rfl)
theorem ci_Ex_goOn : Cond.instanceMethod y_Ex_goOn ∈ am_T := am_in 265 (by decide +kernel) (by rfl)
theorem cs_Ex_goOn : Cond.selects y_Ex_goOn.cls y_Ex_goOn y_Ex_goOn ∈ am_T := am_in 266 (by decide +kernel) (by rfl)
theorem cl_SE_108 : Cond.methodLink R_SE 108 y_Ex_goOn ∈ am_T := am_in 264 (by decide +kernel) (by rfl)
theorem cb_SE_108 : am_cB R_SE 108 y_Ex_goOn b_Ex_goOn 3 none 1 := ⟨cl_SE_108, cn_Ex, cc_Ex_goOn, ⟨by decide, by decide, by decide +kernel⟩, by decide⟩
theorem cl_SE_119 : Cond.methodLink R_SE 119 y_St_has ∈ am_T := am_in 555 (by decide +kernel) (by rfl)
theorem cb_SE_119 : am_cB R_SE 119 y_St_has b_St_has 2 (some .boolean) 1 := ⟨cl_SE_119, cn_St, cc_St_has, ⟨by decide, by decide, by decide +kernel⟩, by decide⟩
theorem cl_SE_134 : Cond.methodLink R_SE 134 y_SE_stateIn ∈ am_T := am_in 572 (by decide +kernel) (by rfl)
theorem cb_SE_134 : am_cB R_SE 134 y_SE_stateIn b_SE_stateIn 3 (some .int) 2 := ⟨cl_SE_134, cn_SE, cc_SE_stateIn, ⟨by decide, by decide, by decide +kernel⟩, by decide⟩
theorem cl_SE_138 : Cond.methodLink R_SE 138 y_SE_codesIn ∈ am_T := am_in 580 (by decide +kernel) (by rfl)
theorem cb_SE_138 : am_cB R_SE 138 y_SE_codesIn b_SE_codesIn 3 (some .int) 1 := ⟨cl_SE_138, cn_SE, cc_SE_codesIn, ⟨by decide, by decide, by decide +kernel⟩, by decide⟩
set_option maxRecDepth 20000 in
theorem cc_St_greatestLevel : Cond.code y_St_greatestLevel b_St_greatestLevel 1 (some .int) ∈ am_T := am_in 371 (by rfl) (by rfl)
theorem ci_St_greatestLevel : Cond.instanceMethod y_St_greatestLevel ∈ am_T := am_in 369 (by decide +kernel) (by rfl)
theorem cs_St_greatestLevel : Cond.selects y_St_greatestLevel.cls y_St_greatestLevel y_St_greatestLevel ∈ am_T := am_in 370 (by decide +kernel) (by rfl)
theorem cl_SE_165 : Cond.methodLink R_SE 165 y_St_greatestLevel ∈ am_T := am_in 368 (by decide +kernel) (by rfl)
theorem cb_SE_165 : am_cB R_SE 165 y_St_greatestLevel b_St_greatestLevel 1 (some .int) 0 := ⟨cl_SE_165, cn_St, cc_St_greatestLevel, ⟨by decide, by decide, by decide +kernel⟩, by decide⟩
set_option maxRecDepth 20000 in
theorem cc_St_beforeLast : Cond.code y_St_beforeLast b_St_beforeLast 4 (some .int) ∈ am_T := am_in 602 (by rfl) (by rfl)
theorem ci_St_beforeLast : Cond.instanceMethod y_St_beforeLast ∈ am_T := am_in 600 (by decide +kernel) (by rfl)
theorem cs_St_beforeLast : Cond.selects y_St_beforeLast.cls y_St_beforeLast y_St_beforeLast ∈ am_T := am_in 601 (by decide +kernel) (by rfl)
theorem cl_SE_171 : Cond.methodLink R_SE 171 y_St_beforeLast ∈ am_T := am_in 599 (by decide +kernel) (by rfl)
theorem cb_SE_171 : am_cB R_SE 171 y_St_beforeLast b_St_beforeLast 4 (some .int) 1 := ⟨cl_SE_171, cn_St, cc_St_beforeLast, ⟨by decide, by decide, by decide +kernel⟩, by decide⟩
set_option maxRecDepth 20000 in
theorem cc_RM_throwing : Cond.code y_RM_throwing b_RM_throwing 3 (some .boolean) ∈ am_T := am_in 725 (by rfl) (by rfl)
theorem cn_RM : Cond.initialized R_RM ∈ am_T := am_in 32 (by decide +kernel) (by rfl)
theorem ci_RM_throwing : Cond.instanceMethod y_RM_throwing ∈ am_T := am_in 724 (by decide +kernel) (by rfl)
theorem cs_RM_throwing : Cond.selects y_RM_throwing.cls y_RM_throwing y_RM_throwing ∈ am_T := am_in 9 (by decide +kernel) (by rfl)
theorem cl_RM_103 : Cond.methodLink R_RM 103 y_RM_throwing ∈ am_T := am_in 722 (by decide +kernel) (by rfl)
theorem cb_RM_103 : am_cB R_RM 103 y_RM_throwing b_RM_throwing 3 (some .boolean) 2 := ⟨cl_RM_103, cn_RM, cc_RM_throwing, ⟨by decide, by decide, by decide +kernel⟩, by decide⟩
set_option maxRecDepth 20000 in
theorem cc_RM_forget : Cond.code y_RM_forget b_RM_forget 1 none ∈ am_T := am_in 729 (by rfl) (by rfl)
theorem ci_RM_forget : Cond.instanceMethod y_RM_forget ∈ am_T := am_in 728 (by decide +kernel) (by rfl)
theorem cs_RM_forget : Cond.selects y_RM_forget.cls y_RM_forget y_RM_forget ∈ am_T := am_in 10 (by decide +kernel) (by rfl)
theorem cl_RM_107 : Cond.methodLink R_RM 107 y_RM_forget ∈ am_T := am_in 726 (by decide +kernel) (by rfl)
theorem cb_RM_107 : am_cB R_RM 107 y_RM_forget b_RM_forget 1 none 0 := ⟨cl_RM_107, cn_RM, cc_RM_forget, ⟨by decide, by decide, by decide +kernel⟩, by decide⟩
set_option maxRecDepth 20000 in
theorem cc_RM_isOf : Cond.code y_RM_isOf b_RM_isOf 2 (some .boolean) ∈ am_T := am_in 740 (by rfl) (by rfl)
theorem ct_RM_isOf : Cond.static y_RM_isOf ∈ am_T := am_in 739 (by decide +kernel) (by rfl)
theorem cl_RM_113 : Cond.methodLink R_RM 113 y_RM_isOf ∈ am_T := am_in 738 (by decide +kernel) (by rfl)
theorem cb_RM_113 : am_cB R_RM 113 y_RM_isOf b_RM_isOf 2 (some .boolean) 2 := ⟨cl_RM_113, cn_RM, cc_RM_isOf, ⟨by decide, by decide, by decide +kernel⟩, by decide⟩
set_option maxRecDepth 20000 in
theorem cc_RM_add : Cond.code y_RM_add b_RM_add 5 none ∈ am_T := am_in 768 (by rfl) (by rfl)
theorem ci_RM_add : Cond.instanceMethod y_RM_add ∈ am_T := am_in 767 (by decide +kernel) (by rfl)
theorem cs_RM_add : Cond.selects y_RM_add.cls y_RM_add y_RM_add ∈ am_T := am_in 14 (by decide +kernel) (by rfl)
theorem cl_RM_120 : Cond.methodLink R_RM 120 y_RM_add ∈ am_T := am_in 765 (by decide +kernel) (by rfl)
theorem cb_RM_120 : am_cB R_RM 120 y_RM_add b_RM_add 5 none 2 := ⟨cl_RM_120, cn_RM, cc_RM_add, ⟨by decide, by decide, by decide +kernel⟩, by decide⟩
set_option maxRecDepth 20000 in
theorem cc_RM_number : Cond.code y_RM_number b_RM_number 4 none ∈ am_T := am_in 764 (by rfl) (by rfl)
theorem ci_RM_number : Cond.instanceMethod y_RM_number ∈ am_T := am_in 763 (by decide +kernel) (by rfl)
theorem cs_RM_number : Cond.selects y_RM_number.cls y_RM_number y_RM_number ∈ am_T := am_in 13 (by decide +kernel) (by rfl)
theorem cl_RM_127 : Cond.methodLink R_RM 127 y_RM_number ∈ am_T := am_in 761 (by decide +kernel) (by rfl)
theorem cb_RM_127 : am_cB R_RM 127 y_RM_number b_RM_number 4 none 1 := ⟨cl_RM_127, cn_RM, cc_RM_number, ⟨by decide, by decide, by decide +kernel⟩, by decide⟩
set_option maxRecDepth 20000 in
theorem cc_RM_compare : Cond.code y_RM_compare b_RM_compare 4 (some .int) ∈ am_T := am_in 771 (by rfl) (by rfl)
theorem ct_RM_compare : Cond.static y_RM_compare ∈ am_T := am_in 770 (by decide +kernel) (by rfl)
theorem cl_RM_131 : Cond.methodLink R_RM 131 y_RM_compare ∈ am_T := am_in 769 (by decide +kernel) (by rfl)
theorem cb_RM_131 : am_cB R_RM 131 y_RM_compare b_RM_compare 4 (some .int) 3 := ⟨cl_RM_131, cn_RM, cc_RM_compare, ⟨by decide, by decide, by decide +kernel⟩, by decide⟩
set_option maxRecDepth 20000 in
theorem cc_RM_compareRow : Cond.code y_RM_compareRow b_RM_compareRow 3 (some .int) ∈ am_T := am_in 803 (by rfl) (by rfl)
theorem ci_RM_compareRow : Cond.instanceMethod y_RM_compareRow ∈ am_T := am_in 802 (by decide +kernel) (by rfl)
theorem cs_RM_compareRow : Cond.selects y_RM_compareRow.cls y_RM_compareRow y_RM_compareRow ∈ am_T := am_in 22 (by decide +kernel) (by rfl)
theorem cl_RM_135 : Cond.methodLink R_RM 135 y_RM_compareRow ∈ am_T := am_in 800 (by decide +kernel) (by rfl)
theorem cb_RM_135 : am_cB R_RM 135 y_RM_compareRow b_RM_compareRow 3 (some .int) 1 := ⟨cl_RM_135, cn_RM, cc_RM_compareRow, ⟨by decide, by decide, by decide +kernel⟩, by decide⟩
set_option maxRecDepth 20000 in
theorem cc_RM_isBad : Cond.code y_RM_isBad b_RM_isBad 4 (some .boolean) ∈ am_T := am_in 779 (by rfl) (by rfl)
theorem ci_RM_isBad : Cond.instanceMethod y_RM_isBad ∈ am_T := am_in 778 (by decide +kernel) (by rfl)
theorem cs_RM_isBad : Cond.selects y_RM_isBad.cls y_RM_isBad y_RM_isBad ∈ am_T := am_in 16 (by decide +kernel) (by rfl)
theorem cl_RM_142 : Cond.methodLink R_RM 142 y_RM_isBad ∈ am_T := am_in 776 (by decide +kernel) (by rfl)
theorem cb_RM_142 : am_cB R_RM 142 y_RM_isBad b_RM_isBad 4 (some .boolean) 0 := ⟨cl_RM_142, cn_RM, cc_RM_isBad, ⟨by decide, by decide, by decide +kernel⟩, by decide⟩
set_option maxRecDepth 20000 in
theorem cc_RM_form : Cond.code y_RM_form b_RM_form 4 none ∈ am_T := am_in 760 (by rfl) (by rfl)
theorem ci_RM_form : Cond.instanceMethod y_RM_form ∈ am_T := am_in 759 (by decide +kernel) (by rfl)
theorem cs_RM_form : Cond.selects y_RM_form.cls y_RM_form y_RM_form ∈ am_T := am_in 12 (by decide +kernel) (by rfl)
theorem cl_RM_146 : Cond.methodLink R_RM 146 y_RM_form ∈ am_T := am_in 757 (by decide +kernel) (by rfl)
theorem cb_RM_146 : am_cB R_RM 146 y_RM_form b_RM_form 4 none 0 := ⟨cl_RM_146, cn_RM, cc_RM_form, ⟨by decide, by decide, by decide +kernel⟩, by decide⟩
set_option maxRecDepth 20000 in
theorem cc_RM_come : Cond.code y_RM_come b_RM_come 4 none ∈ am_T := am_in 775 (by rfl) (by rfl)
theorem ci_RM_come : Cond.instanceMethod y_RM_come ∈ am_T := am_in 774 (by decide +kernel) (by rfl)
theorem cs_RM_come : Cond.selects y_RM_come.cls y_RM_come y_RM_come ∈ am_T := am_in 15 (by decide +kernel) (by rfl)
theorem cl_RM_149 : Cond.methodLink R_RM 149 y_RM_come ∈ am_T := am_in 772 (by decide +kernel) (by rfl)
theorem cb_RM_149 : am_cB R_RM 149 y_RM_come b_RM_come 4 none 2 := ⟨cl_RM_149, cn_RM, cc_RM_come, ⟨by decide, by decide, by decide +kernel⟩, by decide⟩
set_option maxRecDepth 20000 in
theorem cc_RM_isThere : Cond.code y_RM_isThere b_RM_isThere 4 (some .boolean) ∈ am_T := am_in 799 (by rfl) (by rfl)
theorem ci_RM_isThere : Cond.instanceMethod y_RM_isThere ∈ am_T := am_in 798 (by decide +kernel) (by rfl)
theorem cs_RM_isThere : Cond.selects y_RM_isThere.cls y_RM_isThere y_RM_isThere ∈ am_T := am_in 21 (by decide +kernel) (by rfl)
theorem cl_RM_153 : Cond.methodLink R_RM 153 y_RM_isThere ∈ am_T := am_in 796 (by decide +kernel) (by rfl)
theorem cb_RM_153 : am_cB R_RM 153 y_RM_isThere b_RM_isThere 4 (some .boolean) 0 := ⟨cl_RM_153, cn_RM, cc_RM_isThere, ⟨by decide, by decide, by decide +kernel⟩, by decide⟩
set_option maxRecDepth 20000 in
theorem cc_RM_make : Cond.code y_RM_make b_RM_make 10 (some .boolean) ∈ am_T := am_in 791 (by rfl) (by rfl)
theorem ci_RM_make : Cond.instanceMethod y_RM_make ∈ am_T := am_in 790 (by decide +kernel) (by rfl)
theorem cs_RM_make : Cond.selects y_RM_make.cls y_RM_make y_RM_make ∈ am_T := am_in 19 (by decide +kernel) (by rfl)
theorem cl_RM_156 : Cond.methodLink R_RM 156 y_RM_make ∈ am_T := am_in 788 (by decide +kernel) (by rfl)
theorem cb_RM_156 : am_cB R_RM 156 y_RM_make b_RM_make 10 (some .boolean) 4 := ⟨cl_RM_156, cn_RM, cc_RM_make, ⟨by decide, by decide, by decide +kernel⟩, by decide⟩
set_option maxRecDepth 20000 in
theorem cc_RM_step : Cond.code y_RM_step b_RM_step 3 (some .boolean) ∈ am_T := am_in 795 (by rfl) (by rfl)
theorem ci_RM_step : Cond.instanceMethod y_RM_step ∈ am_T := am_in 794 (by decide +kernel) (by rfl)
theorem cs_RM_step : Cond.selects y_RM_step.cls y_RM_step y_RM_step ∈ am_T := am_in 20 (by decide +kernel) (by rfl)
theorem cl_RM_160 : Cond.methodLink R_RM 160 y_RM_step ∈ am_T := am_in 792 (by decide +kernel) (by rfl)
theorem cb_RM_160 : am_cB R_RM 160 y_RM_step b_RM_step 3 (some .boolean) 2 := ⟨cl_RM_160, cn_RM, cc_RM_step, ⟨by decide, by decide, by decide +kernel⟩, by decide⟩
set_option maxRecDepth 20000 in
theorem cc_RM_allSteps : Cond.code y_RM_allSteps b_RM_allSteps 8 (some .int) ∈ am_T := am_in 787 (by rfl) (by rfl)
theorem ci_RM_allSteps : Cond.instanceMethod y_RM_allSteps ∈ am_T := am_in 786 (by decide +kernel) (by rfl)
theorem cs_RM_allSteps : Cond.selects y_RM_allSteps.cls y_RM_allSteps y_RM_allSteps ∈ am_T := am_in 18 (by decide +kernel) (by rfl)
theorem cl_RM_163 : Cond.methodLink R_RM 163 y_RM_allSteps ∈ am_T := am_in 784 (by decide +kernel) (by rfl)
theorem cb_RM_163 : am_cB R_RM 163 y_RM_allSteps b_RM_allSteps 8 (some .int) 3 := ⟨cl_RM_163, cn_RM, cc_RM_allSteps, ⟨by decide, by decide, by decide +kernel⟩, by decide⟩
set_option maxRecDepth 20000 in
theorem cc_RM_begin : Cond.code y_RM_begin b_RM_begin 2 none ∈ am_T := am_in 756 (by rfl) (by rfl)
theorem ci_RM_begin : Cond.instanceMethod y_RM_begin ∈ am_T := am_in 755 (by decide +kernel) (by rfl)
theorem cs_RM_begin : Cond.selects y_RM_begin.cls y_RM_begin y_RM_begin ∈ am_T := am_in 11 (by decide +kernel) (by rfl)
theorem cl_RM_167 : Cond.methodLink R_RM 167 y_RM_begin ∈ am_T := am_in 753 (by decide +kernel) (by rfl)
theorem cb_RM_167 : am_cB R_RM 167 y_RM_begin b_RM_begin 2 none 0 := ⟨cl_RM_167, cn_RM, cc_RM_begin, ⟨by decide, by decide, by decide +kernel⟩, by decide⟩
set_option maxRecDepth 20000 in
theorem cc_RM_goThrough : Cond.code y_RM_goThrough b_RM_goThrough 6 none ∈ am_T := am_in 783 (by rfl) (by rfl)
theorem ci_RM_goThrough : Cond.instanceMethod y_RM_goThrough ∈ am_T := am_in 782 (by decide +kernel) (by rfl)
theorem cs_RM_goThrough : Cond.selects y_RM_goThrough.cls y_RM_goThrough y_RM_goThrough ∈ am_T := am_in 17 (by decide +kernel) (by rfl)
theorem cl_RM_170 : Cond.methodLink R_RM 170 y_RM_goThrough ∈ am_T := am_in 780 (by decide +kernel) (by rfl)
theorem cb_RM_170 : am_cB R_RM 170 y_RM_goThrough b_RM_goThrough 6 none 0 := ⟨cl_RM_170, cn_RM, cc_RM_goThrough, ⟨by decide, by decide, by decide +kernel⟩, by decide⟩
set_option maxRecDepth 20000 in
theorem cc_RM_greatestLevel : Cond.code y_RM_greatestLevel b_RM_greatestLevel 3 (some .int) ∈ am_T := am_in 835 (by rfl) (by rfl)
theorem ci_RM_greatestLevel : Cond.instanceMethod y_RM_greatestLevel ∈ am_T := am_in 834 (by decide +kernel) (by rfl)
theorem cs_RM_greatestLevel : Cond.selects y_RM_greatestLevel.cls y_RM_greatestLevel y_RM_greatestLevel ∈ am_T := am_in 23 (by decide +kernel) (by rfl)
theorem cl_RM_173 : Cond.methodLink R_RM 173 y_RM_greatestLevel ∈ am_T := am_in 832 (by decide +kernel) (by rfl)
theorem cb_RM_173 : am_cB R_RM 173 y_RM_greatestLevel b_RM_greatestLevel 3 (some .int) 0 := ⟨cl_RM_173, cn_RM, cc_RM_greatestLevel, ⟨by decide, by decide, by decide +kernel⟩, by decide⟩
set_option maxRecDepth 20000 in
theorem cc_RM_sums : Cond.code y_RM_sums b_RM_sums 3 (some .int) ∈ am_T := am_in 839 (by rfl) (by rfl)
theorem ci_RM_sums : Cond.instanceMethod y_RM_sums ∈ am_T := am_in 838 (by decide +kernel) (by rfl)
theorem cs_RM_sums : Cond.selects y_RM_sums.cls y_RM_sums y_RM_sums ∈ am_T := am_in 24 (by decide +kernel) (by rfl)
theorem cl_RM_177 : Cond.methodLink R_RM 177 y_RM_sums ∈ am_T := am_in 836 (by decide +kernel) (by rfl)
theorem cb_RM_177 : am_cB R_RM 177 y_RM_sums b_RM_sums 3 (some .int) 0 := ⟨cl_RM_177, cn_RM, cc_RM_sums, ⟨by decide, by decide, by decide +kernel⟩, by decide⟩
theorem mm_SE_192 : am_mm R_SE 192 := ⟨am_in 173 (by decide +kernel) (by rfl), am_in 174 (by decide +kernel) (by rfl), am_in 28 (by decide +kernel) (by rfl), am_in 175 (by rfl) (by rfl)⟩
theorem mm_Dr_53 : am_mc R_Dr 53 := ⟨am_in 341 (by decide +kernel) (by rfl), am_in 343 (by decide +kernel) (by rfl), am_in 342 (by decide +kernel) (by rfl), am_in 39 (by decide +kernel) (by rfl)⟩
theorem sf_SE_189 : Cond.fieldLink R_SE 189 "StateExplore" "NUMBERINGS" "[I" ∈ am_T := am_in 171 (by decide +kernel) (by rfl)
theorem sf_Dr_63 : (R_Dr, 63, "StateExplore", "NUMBERINGS", "[I", R_SE) ∈ am_NF := by decide +kernel
