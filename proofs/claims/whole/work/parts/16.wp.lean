/-- what the cells refer to, once all are made -/
def rhL : List (List (Option Nat)) := [[some 1, some 4, some 11, some 13, some 17, some 86, some 154, some 162, none, none], [some 2, some 3, none], [], [], [some 5, some 6, none, some 7, some 8, some 9, some 10, none], [], [], [], [], [], [], [some 12, none], [], [some 4, some 14, some 15, none, none], [], [], [some 1, some 4], [some 1, some 4, some 16, some 18, some 82, some 83, some 84, none], [some 19, some 20], [], [some 21, none], [], [some 23, none], [], [some 25, none], [], [some 27, none], [], [some 29, none], [], [some 31, none], [], [some 33, none], [], [some 35, none], [], [some 37, none], [], [some 39, none], [], [some 41, none], [], [some 43, none], [], [some 45, none], [], [some 47, none], [], [some 49, none], [], [some 51, none], [], [some 53, none], [], [some 55, none], [], [some 57, none], [], [some 59, none], [], [some 61, none], [], [some 63, none], [], [some 65, none], [], [some 67, none], [], [some 69, none], [], [some 71, none], [], [some 73, none], [], [some 75, none], [], [some 77, none], [], [some 79, none], [], [some 81, none], [], [], [], [some 85, none], [], [some 4, some 17, some 87, some 88, some 89, some 90, none], [], [], [], [some 91, some 92], [], [some 93, none], [], [some 95, none], [], [some 97, none], [], [some 99, none], [], [some 101, none], [], [some 103, none], [], [some 105, none], [], [some 107, none], [], [some 109, none], [], [some 111, none], [], [some 113, none], [], [some 115, none], [], [some 117, none], [], [some 119, none], [], [some 121, none], [], [some 123, none], [], [some 125, none], [], [some 127, none], [], [some 129, none], [], [some 131, none], [], [some 133, none], [], [some 135, none], [], [some 137, none], [], [some 139, none], [], [some 141, none], [], [some 143, none], [], [some 145, none], [], [some 147, none], [], [some 149, none], [], [some 151, none], [], [some 153, none], [], [some 155, none, some 156, some 158, some 160], [], [some 157, none], [], [some 159, none], [], [some 161, none], [], [some 1, some 4, some 16, some 86, some 163, some 165, none], [some 164, none], [], [some 166, none], [], [none, none, some 168, some 169, some 170, none, some 171, some 172, none, some 173, some 174, some 175, some 176, none, none, some 177, some 178, some 179, some 180, some 181, none, none, some 182, some 183, none, some 184, some 185, none, some 186, none], [], [], [], [], [], [], [], [], [], [], [], [], [], [], [], [], [], [], []]
def rh0 (a k : Nat) : Option Nat := if a = 19 then (if k < 30 then some (22 + 2 * k) else none) else if a = 91 then (if k < 30 then some (94 + 2 * k) else none) else (rhL.getD a []).getD k none
abbrev mc_G : Type := Nat → Nat → Int32
/-- from a place of a method's code the machine comes to the method's end, and there Φ holds of the answer and of the numbers in the cells -/
def Wp (cd : List mc_I) (pc : Nat) (lo : List (Nat × mc_V)) (st : List mc_V) (σ : mc_G) (Φ : Option mc_V → mc_G → Prop) : Prop :=
  ∀ y, mc_code y = cd → ∃ (rv : Option mc_V) (σ' : mc_G), mc_E false y pc lo st (187, rh0, σ) (rv, (187, rh0, σ')) ∧ Φ rv σ'
section WP
variable {cd : List mc_I} {pc pc' : Nat} {lo lo' : List (Nat × mc_V)} {st st' : List mc_V} {σ σ' : mc_G} {Φ Ψ : Option mc_V → mc_G → Prop}
theorem Wp.go (h : mc_stp false cd pc lo st (187, rh0, σ) = some (.inl (pc', lo', st', (187, rh0, σ')))) (k : Wp cd pc' lo' st' σ' Φ) : Wp cd pc lo st σ Φ := by
  intro y hy
  obtain ⟨rv, s2, h1, h2⟩ := k y hy
  exact ⟨rv, s2, mc_E.go (by rw [hy]; exact h) h1, h2⟩
theorem Wp.ret {rv : Option mc_V} (h : mc_stp false cd pc lo st (187, rh0, σ) = some (.inr (.inl rv))) (k : Φ rv σ) : Wp cd pc lo st σ Φ := by
  intro y hy
  exact ⟨rv, σ, mc_E.ret (by rw [hy]; exact h), k⟩
theorem Wp.call {y' : Nat} {cd' : List mc_I} {as rest : List mc_V} (h : mc_stp false cd pc lo st (187, rh0, σ) = some (.inr (.inr (y', as, rest)))) (hc : mc_code y' = cd') (c : Wp cd' 0 (mc_lo 0 as) [] σ Ψ) (k : ∀ rv σ', Ψ rv σ' → Wp cd (pc + 3) lo (rv.toList ++ rest) σ' Φ) : Wp cd pc lo st σ Φ := by
  intro y hy
  obtain ⟨rv, s1, h1, h2⟩ := c y' hc
  obtain ⟨rv2, s2, h3, h4⟩ := k rv s1 h2 y hy
  exact ⟨rv2, s2, mc_E.call (by rw [hy]; exact h) h1 h3, h4⟩
theorem Wp.mono (c : Wp cd pc lo st σ Ψ) (k : ∀ rv σ', Ψ rv σ' → Φ rv σ') : Wp cd pc lo st σ Φ := by
  intro y hy
  obtain ⟨rv, s1, h1, h2⟩ := c y hy
  exact ⟨rv, s1, h1, k _ _ h2⟩
theorem Wp.eq {x y : Int32} {t f : Nat} (k1 : x = y → Wp cd t lo st σ Φ) (k2 : ¬ x = y → Wp cd f lo st σ Φ) : Wp cd (mc_jmp .eq x y t f) lo st σ Φ := by
  by_cases h : x = y
  · simpa only [mc_jmp, if_pos h] using k1 h
  · simpa only [mc_jmp, if_neg h] using k2 h
theorem Wp.ne {x y : Int32} {t f : Nat} (k1 : ¬ x = y → Wp cd t lo st σ Φ) (k2 : x = y → Wp cd f lo st σ Φ) : Wp cd (mc_jmp .ne x y t f) lo st σ Φ := by
  by_cases h : x = y
  · simpa only [mc_jmp, if_pos h] using k2 h
  · simpa only [mc_jmp, if_neg h] using k1 h
theorem Wp.lt {x y : Int32} {t f : Nat} (k1 : x < y → Wp cd t lo st σ Φ) (k2 : ¬ x < y → Wp cd f lo st σ Φ) : Wp cd (mc_jmp .lt x y t f) lo st σ Φ := by
  by_cases h : x < y
  · simpa only [mc_jmp, if_pos h] using k1 h
  · simpa only [mc_jmp, if_neg h] using k2 h
theorem Wp.ge {x y : Int32} {t f : Nat} (k1 : ¬ x < y → Wp cd t lo st σ Φ) (k2 : x < y → Wp cd f lo st σ Φ) : Wp cd (mc_jmp .ge x y t f) lo st σ Φ := by
  by_cases h : x < y
  · simpa only [mc_jmp, if_pos h] using k2 h
  · simpa only [mc_jmp, if_neg h] using k1 h
theorem Wp.gt {x y : Int32} {t f : Nat} (k1 : y < x → Wp cd t lo st σ Φ) (k2 : ¬ y < x → Wp cd f lo st σ Φ) : Wp cd (mc_jmp .gt x y t f) lo st σ Φ := by
  by_cases h : y < x
  · simpa only [mc_jmp, if_pos h] using k1 h
  · simpa only [mc_jmp, if_neg h] using k2 h
theorem Wp.le {x y : Int32} {t f : Nat} (k1 : ¬ y < x → Wp cd t lo st σ Φ) (k2 : y < x → Wp cd f lo st σ Φ) : Wp cd (mc_jmp .le x y t f) lo st σ Φ := by
  by_cases h : y < x
  · simpa only [mc_jmp, if_pos h] using k2 h
  · simpa only [mc_jmp, if_neg h] using k1 h
end WP
theorem cqX0_init : mc_code 0 = miX0_init := rfl
theorem cqX0_height : mc_code 1 = miX0_height := rfl
theorem cqX0_holds : mc_code 2 = miX0_holds := rfl
theorem cqX0_kindAt : mc_code 3 = miX0_kindAt := rfl
theorem cqX0_put : mc_code 4 = miX0_put := rfl
theorem cqX0_fromTop : mc_code 5 = miX0_fromTop := rfl
theorem cqX0_push : mc_code 6 = miX0_push := rfl
theorem cqX0_pushLong : mc_code 7 = miX0_pushLong := rfl
theorem cqX0_drop : mc_code 8 = miX0_drop := rfl
theorem cqX0_store : mc_code 9 = miX0_store := rfl
theorem cqX0_storeLong : mc_code 10 = miX0_storeLong := rfl
theorem cqX0_replaceAll : mc_code 11 = miX0_replaceAll := rfl
theorem cqX0_becomeTops : mc_code 12 = miX0_becomeTops := rfl
theorem cqX0_becomeLike : mc_code 13 = miX0_becomeLike := rfl
theorem cqX0_becomeCaught : mc_code 14 = miX0_becomeCaught := rfl
theorem cqX0_joinWith : mc_code 15 = miX0_joinWith := rfl
theorem cqX0_allStandFor : mc_code 16 = miX0_allStandFor := rfl
theorem cqX0_breakLong : mc_code 17 = miX0_breakLong := rfl
theorem cqX1_init : mc_code 18 = miX1_init := rfl
theorem cqX1_size : mc_code 19 = miX1_size := rfl
theorem cqX1_handlers : mc_code 20 = miX1_handlers := rfl
theorem cqX1_has : mc_code 21 = miX1_has := rfl
theorem cqX1_add : mc_code 22 = miX1_add := rfl
theorem cqX1_addHandler : mc_code 23 = miX1_addHandler := rfl
theorem cqX1_opAt : mc_code 24 = miX1_opAt := rfl
theorem cqX1_numberAt : mc_code 25 = miX1_numberAt := rfl
theorem cqX1_goesOn : mc_code 26 = miX1_goesOn := rfl
theorem cqX1_jumps : mc_code 27 = miX1_jumps := rfl
theorem cqX1_covers : mc_code 28 = miX1_covers := rfl
theorem cqX1_startOf : mc_code 29 = miX1_startOf := rfl
theorem cqX1_thingOf : mc_code 30 = miX1_thingOf := rfl
theorem cqX1_hasHandler : mc_code 31 = miX1_hasHandler := rfl
theorem cqX2_init : mc_code 32 = miX2_init := rfl
theorem cqX2_count : mc_code 33 = miX2_count := rfl
theorem cqX2_kindAt : mc_code 34 = miX2_kindAt := rfl
theorem cqX2_takeLocals : mc_code 35 = miX2_takeLocals := rfl
theorem cqX2_takePile : mc_code 36 = miX2_takePile := rfl
theorem cqX2_beginsAlike : mc_code 37 = miX2_beginsAlike := rfl
theorem cqX2_take : mc_code 38 = miX2_take := rfl
theorem cqX3_init : mc_code 39 = miX3_init := rfl
theorem cqX3_count : mc_code 40 = miX3_count := rfl
theorem cqX3_instructionOf : mc_code 41 = miX3_instructionOf := rfl
theorem cqX3_given : mc_code 42 = miX3_given := rfl
theorem cqX3_numberAt : mc_code 43 = miX3_numberAt := rfl
theorem cqX3_gather : mc_code 44 = miX3_gather := rfl
theorem cqX3_markWhatIsMeantBy : mc_code 45 = miX3_markWhatIsMeantBy := rfl
theorem cqX3_mark : mc_code 46 = miX3_mark := rfl
theorem cqX3_add : mc_code 47 = miX3_add := rfl
theorem cqX4_init : mc_code 48 = miX4_init := rfl
theorem cqX4_firstWrong : mc_code 49 = miX4_firstWrong := rfl
theorem cqX4_takesFrame : mc_code 50 = miX4_takesFrame := rfl
theorem cqX4_passes : mc_code 51 = miX4_passes := rfl
theorem cqX4_handlersFit : mc_code 52 = miX4_handlersFit := rfl
theorem cqX4_fitsFrameOf : mc_code 53 = miX4_fitsFrameOf := rfl
theorem cqX5_init : mc_code 54 = miX5_init := rfl
theorem cqX5_suits : mc_code 55 = miX5_suits := rfl
theorem cqX5_pass : mc_code 56 = miX5_pass := rfl
theorem cqX5_work : mc_code 57 = miX5_work := rfl
theorem cqX6_init : mc_code 58 = miX6_init := rfl
theorem cqX6_found : mc_code 59 = miX6_found := rfl
theorem cqX6_lookForFault : mc_code 60 = miX6_lookForFault := rfl
theorem cqX6_followWays : mc_code 61 = miX6_followWays := rfl
theorem cqX6_seenAt : mc_code 62 = miX6_seenAt := rfl
theorem cqX6_come : mc_code 63 = miX6_come := rfl
theorem cqX6_leave : mc_code 64 = miX6_leave := rfl
theorem cqX6_goOn : mc_code 65 = miX6_goOn := rfl
theorem cqX6_comesWith : mc_code 66 = miX6_comesWith := rfl
theorem cqX6_fits : mc_code 67 = miX6_fits := rfl
theorem cqX6_faultAt : mc_code 68 = miX6_faultAt := rfl
theorem cqX6_leadsOut : mc_code 69 = miX6_leadsOut := rfl
theorem cqX6_handlerLeadsOut : mc_code 70 = miX6_handlerLeadsOut := rfl
theorem cqX7_init : mc_code 71 = miX7_init := rfl
theorem cqX7_isReached : mc_code 72 = miX7_isReached := rfl
theorem cqX7_row : mc_code 73 = miX7_row := rfl
theorem cqX7_countReached : mc_code 74 = miX7_countReached := rfl
theorem cqX7_workOut : mc_code 75 = miX7_workOut := rfl
theorem cqX7_firstUnsuited : mc_code 76 = miX7_firstUnsuited := rfl
theorem cqX7_leave : mc_code 77 = miX7_leave := rfl
theorem cqX7_meet : mc_code 78 = miX7_meet := rfl
theorem cqX8_init : mc_code 79 = miX8_init := rfl
theorem cqX8_row : mc_code 80 = miX8_row := rfl
theorem cqX9_init : mc_code 81 = miX9_init := rfl
theorem cqX9_count : mc_code 82 = miX9_count := rfl
theorem cqX9_has : mc_code 83 = miX9_has := rfl
theorem cqX9_isFace : mc_code 84 = miX9_isFace := rfl
theorem cqX9_add : mc_code 85 = miX9_add := rfl
theorem cqX9_isThing : mc_code 86 = miX9_isThing := rfl
theorem cqX9_isReference : mc_code 87 = miX9_isReference := rfl
theorem cqX9_isPlain : mc_code 88 = miX9_isPlain := rfl
theorem cqX9_isKind : mc_code 89 = miX9_isKind := rfl
theorem cqX9_standsFor : mc_code 90 = miX9_standsFor := rfl
theorem cqX9_join : mc_code 91 = miX9_join := rfl
theorem cqX9_nearest : mc_code 92 = miX9_nearest := rfl
theorem cqX9_share : mc_code 93 = miX9_share := rfl
theorem cqX10_init : mc_code 94 = miX10_init := rfl
theorem cqX10_length : mc_code 95 = miX10_length := rfl
theorem cqX10_has : mc_code 96 = miX10_has := rfl
theorem cqX10_byteAt : mc_code 97 = miX10_byteAt := rfl
theorem cqX10_write : mc_code 98 = miX10_write := rfl
theorem cqX10_writeOne : mc_code 99 = miX10_writeOne := rfl
theorem cqX10_addEntries : mc_code 100 = miX10_addEntries := rfl
theorem cqX10_addKind : mc_code 101 = miX10_addKind := rfl
theorem cqX10_add : mc_code 102 = miX10_add := rfl
theorem cqX11_init : mc_code 103 = miX11_init := rfl
theorem cqX11_type : mc_code 104 = miX11_type := rfl
theorem cqX11_local : mc_code 105 = miX11_local := rfl
theorem cqX11_op : mc_code 106 = miX11_op := rfl
theorem cqX11_handler : mc_code 107 = miX11_handler := rfl
theorem cqX11_make : mc_code 108 = miX11_make := rfl
theorem cqX11_fault : mc_code 109 = miX11_fault := rfl
theorem cqX11_state : mc_code 110 = miX11_state := rfl
theorem cqX11_frame : mc_code 111 = miX11_frame := rfl
theorem cqX11_packed : mc_code 112 = miX11_packed := rfl
theorem cqX11_plant : mc_code 113 = miX11_plant := rfl
theorem cqX11_judge : mc_code 114 = miX11_judge := rfl
theorem cqX11_joined : mc_code 115 = miX11_joined := rfl
theorem cqX11_goes : mc_code 116 = miX11_goes := rfl
theorem cqX11_told : mc_code 117 = miX11_told := rfl
theorem cqX11_changed : mc_code 118 = miX11_changed := rfl
theorem cqX11_isNumberFor : mc_code 119 = miX11_isNumberFor := rfl
theorem cqX11_isBegun : mc_code 120 = miX11_isBegun := rfl
theorem cqX11_isWhole : mc_code 121 = miX11_isWhole := rfl
theorem cqX11_isLong : mc_code 122 = miX11_isLong := rfl
theorem cqX11_takes : mc_code 123 = miX11_takes := rfl
theorem cqX11_gives : mc_code 124 = miX11_gives := rfl
theorem cqX12_init : mc_code 125 = miX12_init := rfl
theorem cqX12_thrown : mc_code 126 = miX12_thrown := rfl
theorem cqX12_isIn : mc_code 127 = miX12_isIn := rfl
theorem cqX12_isType : mc_code 128 = miX12_isType := rfl
theorem cqX12_isKind : mc_code 129 = miX12_isKind := rfl
theorem cqX12_isThing : mc_code 130 = miX12_isThing := rfl
theorem cqX12_isThingOrNull : mc_code 131 = miX12_isThingOrNull := rfl
theorem cqX12_comes : mc_code 132 = miX12_comes := rfl
theorem cqX12_goesFor : mc_code 133 = miX12_goesFor := rfl
theorem cqX12_join : mc_code 134 = miX12_join := rfl
theorem cqX12_joined : mc_code 135 = miX12_joined := rfl
theorem cqX12_goes : mc_code 136 = miX12_goes := rfl
theorem cqX12_ends : mc_code 137 = miX12_ends := rfl
theorem cqX12_type : mc_code 138 = miX12_type := rfl
theorem cqX12_lay : mc_code 139 = miX12_lay := rfl
theorem cqX12_layLong : mc_code 140 = miX12_layLong := rfl
theorem cqX12_local : mc_code 141 = miX12_local := rfl
theorem cqX12_op : mc_code 142 = miX12_op := rfl
theorem cqX12_handler : mc_code 143 = miX12_handler := rfl
theorem cqX12_takes : mc_code 144 = miX12_takes := rfl
theorem cqX12_gives : mc_code 145 = miX12_gives := rfl
theorem cqX12_goesOn : mc_code 146 = miX12_goesOn := rfl
theorem cqX12_leads : mc_code 147 = miX12_leads := rfl
theorem cqX12_fitsHigh : mc_code 148 = miX12_fitsHigh := rfl
theorem cqX12_come : mc_code 149 = miX12_come := rfl
theorem cqX12_walk : mc_code 150 = miX12_walk := rfl
theorem cqX12_goAlong : mc_code 151 = miX12_goAlong := rfl
theorem cqX12_highOf : mc_code 152 = miX12_highOf := rfl
theorem cqX12_top : mc_code 153 = miX12_top := rfl
theorem cqX12_isLongOnTop : mc_code 154 = miX12_isLongOnTop := rfl
theorem cqX12_isHalfOrLong : mc_code 155 = miX12_isHalfOrLong := rfl
theorem cqX12_isWanted : mc_code 156 = miX12_isWanted := rfl
theorem cqX12_push : mc_code 157 = miX12_push := rfl
theorem cqX12_pushLong : mc_code 158 = miX12_pushLong := rfl
theorem cqX12_becomes : mc_code 159 = miX12_becomes := rfl
theorem cqX12_work : mc_code 160 = miX12_work := rfl
theorem cqX12_takeUp : mc_code 161 = miX12_takeUp := rfl
theorem cqX12_joins : mc_code 162 = miX12_joins := rfl
theorem cqX12_bring : mc_code 163 = miX12_bring := rfl
theorem cqX12_settle : mc_code 164 = miX12_settle := rfl
theorem cqX12_isFrame : mc_code 165 = miX12_isFrame := rfl
theorem cqX12_list : mc_code 166 = miX12_list := rfl
theorem cqX12_keepEntries : mc_code 167 = miX12_keepEntries := rfl
theorem cqX12_put : mc_code 168 = miX12_put := rfl
theorem cqX12_putEntry : mc_code 169 = miX12_putEntry := rfl
theorem cqX12_putEntries : mc_code 170 = miX12_putEntries := rfl
theorem cqX12_pileMany : mc_code 171 = miX12_pileMany := rfl
theorem cqX12_putPile : mc_code 172 = miX12_putPile := rfl
theorem cqX12_write : mc_code 173 = miX12_write := rfl
theorem cqX12_frame : mc_code 174 = miX12_frame := rfl
theorem cqX12_faultOf : mc_code 175 = miX12_faultOf := rfl
theorem cqX12_make : mc_code 176 = miX12_make := rfl
theorem cqX12_fault : mc_code 177 = miX12_fault := rfl
theorem cqX12_state : mc_code 178 = miX12_state := rfl
theorem cqX12_frame_ : mc_code 179 = miX12_frame_ := rfl
theorem cqX12_packed : mc_code 180 = miX12_packed := rfl
theorem cqX12_out : mc_code 181 = miX12_out := rfl
theorem cqX12_plant : mc_code 182 = miX12_plant := rfl
theorem cqX12_goFor : mc_code 183 = miX12_goFor := rfl
theorem cqX12_handlersGo : mc_code 184 = miX12_handlersGo := rfl
theorem cqX12_judge : mc_code 185 = miX12_judge := rfl
theorem cqX12_told : mc_code 186 = miX12_told := rfl
theorem cqJ6_bitCount_0f7a4 : mc_code 187 = miJ6_bitCount_0f7a4 := rfl
