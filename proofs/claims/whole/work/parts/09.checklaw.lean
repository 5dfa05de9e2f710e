def mchkR (cc : ByteArray) (oc nL rc : Nat) (ini : Bool) (code : List MI) (lo n : Nat) : Bool := (List.range n).all (fun j => match code[lo + j]? with
  | some e => okI oc nL rc ini code e && nxI code (lo + j) e && dcI cc e
  | none => true)
theorem ckl0 : mchkR code 15 4 1 false k_L_law 0 25 = true := by decide +kernel
theorem ckl1 : mchkR code 15 4 1 false k_L_law 25 25 = true := by decide +kernel
theorem ckl2 : mchkR code 15 4 1 false k_L_law 50 25 = true := by decide +kernel
theorem ckl3 : mchkR code 15 4 1 false k_L_law 75 25 = true := by decide +kernel
theorem ckl4 : mchkR code 15 4 1 false k_L_law 100 25 = true := by decide +kernel
theorem ckl5 : mchkR code 15 4 1 false k_L_law 125 25 = true := by decide +kernel
theorem ckl6 : mchkR code 15 4 1 false k_L_law 150 25 = true := by decide +kernel
theorem ckl7 : mchkR code 15 4 1 false k_L_law 175 25 = true := by decide +kernel
theorem ckl8 : mchkR code 15 4 1 false k_L_law 200 25 = true := by decide +kernel
theorem ckl9 : mchkR code 15 4 1 false k_L_law 225 25 = true := by decide +kernel
theorem ckl10 : mchkR code 15 4 1 false k_L_law 250 25 = true := by decide +kernel
theorem ckl11 : mchkR code 15 4 1 false k_L_law 275 25 = true := by decide +kernel
theorem ckl12 : mchkR code 15 4 1 false k_L_law 300 25 = true := by decide +kernel
theorem ckl13 : mchkR code 15 4 1 false k_L_law 325 25 = true := by decide +kernel
theorem ckl14 : mchkR code 15 4 1 false k_L_law 350 25 = true := by decide +kernel
theorem ckl15 : mchkR code 15 4 1 false k_L_law 375 25 = true := by decide +kernel
theorem ckl16 : mchkR code 15 4 1 false k_L_law 400 25 = true := by decide +kernel
theorem ckl17 : mchkR code 15 4 1 false k_L_law 425 25 = true := by decide +kernel
theorem ckl18 : mchkR code 15 4 1 false k_L_law 450 25 = true := by decide +kernel
theorem ckl19 : mchkR code 15 4 1 false k_L_law 475 25 = true := by decide +kernel
theorem ckl20 : mchkR code 15 4 1 false k_L_law 500 25 = true := by decide +kernel
theorem ckl21 : mchkR code 15 4 1 false k_L_law 525 25 = true := by decide +kernel
theorem ckl22 : mchkR code 15 4 1 false k_L_law 550 25 = true := by decide +kernel
theorem ckl23 : mchkR code 15 4 1 false k_L_law 575 25 = true := by decide +kernel
theorem ckl24 : mchkR code 15 4 1 false k_L_law 600 25 = true := by decide +kernel
theorem ckl25 : mchkR code 15 4 1 false k_L_law 625 25 = true := by decide +kernel
theorem ckl26 : mchkR code 15 4 1 false k_L_law 650 25 = true := by decide +kernel
theorem ckl27 : mchkR code 15 4 1 false k_L_law 675 25 = true := by decide +kernel
theorem ckl28 : mchkR code 15 4 1 false k_L_law 700 25 = true := by decide +kernel
theorem ckl29 : mchkR code 15 4 1 false k_L_law 725 25 = true := by decide +kernel
theorem ckl30 : mchkR code 15 4 1 false k_L_law 750 25 = true := by decide +kernel
theorem ckl31 : mchkR code 15 4 1 false k_L_law 775 25 = true := by decide +kernel
theorem ckl32 : mchkR code 15 4 1 false k_L_law 800 25 = true := by decide +kernel
theorem ckl33 : mchkR code 15 4 1 false k_L_law 825 25 = true := by decide +kernel
theorem ckl34 : mchkR code 15 4 1 false k_L_law 850 25 = true := by decide +kernel
theorem ckl35 : mchkR code 15 4 1 false k_L_law 875 25 = true := by decide +kernel
theorem ckl36 : mchkR code 15 4 1 false k_L_law 900 25 = true := by decide +kernel
theorem ckl37 : mchkR code 15 4 1 false k_L_law 925 25 = true := by decide +kernel
theorem ckl38 : mchkR code 15 4 1 false k_L_law 950 25 = true := by decide +kernel
theorem ckl39 : mchkR code 15 4 1 false k_L_law 975 25 = true := by decide +kernel
theorem ckl40 : mchkR code 15 4 1 false k_L_law 1000 25 = true := by decide +kernel
theorem ckl41 : mchkR code 15 4 1 false k_L_law 1025 25 = true := by decide +kernel
theorem ckl42 : mchkR code 15 4 1 false k_L_law 1050 25 = true := by decide +kernel
theorem ckl43 : mchkR code 15 4 1 false k_L_law 1075 25 = true := by decide +kernel
theorem ckl44 : mchkR code 15 4 1 false k_L_law 1100 25 = true := by decide +kernel
theorem ckl45 : mchkR code 15 4 1 false k_L_law 1125 25 = true := by decide +kernel
theorem ckl46 : mchkR code 15 4 1 false k_L_law 1150 25 = true := by decide +kernel
theorem ckl47 : mchkR code 15 4 1 false k_L_law 1175 25 = true := by decide +kernel
theorem ckl48 : mchkR code 15 4 1 false k_L_law 1200 25 = true := by decide +kernel
theorem ckl49 : mchkR code 15 4 1 false k_L_law 1225 25 = true := by decide +kernel
theorem ckl50 : mchkR code 15 4 1 false k_L_law 1250 25 = true := by decide +kernel
theorem ckl51 : mchkR code 15 4 1 false k_L_law 1275 25 = true := by decide +kernel
theorem ckl52 : mchkR code 15 4 1 false k_L_law 1300 25 = true := by decide +kernel
theorem ckl53 : mchkR code 15 4 1 false k_L_law 1325 25 = true := by decide +kernel
theorem ckl54 : mchkR code 15 4 1 false k_L_law 1350 25 = true := by decide +kernel
def COK (cc : ByteArray) (oc nL rc : Nat) (ini : Bool) (code : List MI) : Prop := ∀ (i : Nat) (e : MI), code[i]? = some e → okI oc nL rc ini code e = true ∧ nxI code i e = true ∧ dcI cc e = true
theorem cok_of {cc : ByteArray} {oc nL rc : Nat} {ini : Bool} {code : List MI} (h : mchk cc oc nL rc ini code = true) : COK cc oc nL rc ini code := by
  intro i e he
  unfold mchk at h
  have h1 := List.all_eq_true.mp h i (List.mem_range.mpr (List.getElem?_eq_some_iff.mp he).1)
  rw [he] at h1
  simp only [Bool.and_eq_true] at h1
  exact ⟨h1.1.1, h1.1.2, h1.2⟩
theorem cokR_of {cc : ByteArray} {oc nL rc : Nat} {ini : Bool} {code : List MI} {lo n : Nat} (h : mchkR cc oc nL rc ini code lo n = true) (i : Nat) (e : MI) (he : code[i]? = some e) (h1 : lo ≤ i) (h2 : i < lo + n) : okI oc nL rc ini code e = true ∧ nxI code i e = true ∧ dcI cc e = true := by
  unfold mchkR at h
  have h1 := List.all_eq_true.mp h (i - lo) (List.mem_range.mpr (by omega))
  rw [show lo + (i - lo) = i by omega, he] at h1
  simp only [Bool.and_eq_true] at h1
  exact ⟨h1.1.1, h1.1.2, h1.2⟩
theorem law_len : k_L_law.length = 1353 := by decide +kernel
theorem cok_law : COK code 15 4 1 false k_L_law := by
  intro i e he
  have hl : i < 1353 := law_len ▸ (List.getElem?_eq_some_iff.mp he).1
  by_cases h0 : i < 25
  · exact cokR_of ckl0 i e he (by omega) h0
  by_cases h1 : i < 50
  · exact cokR_of ckl1 i e he (by omega) h1
  by_cases h2 : i < 75
  · exact cokR_of ckl2 i e he (by omega) h2
  by_cases h3 : i < 100
  · exact cokR_of ckl3 i e he (by omega) h3
  by_cases h4 : i < 125
  · exact cokR_of ckl4 i e he (by omega) h4
  by_cases h5 : i < 150
  · exact cokR_of ckl5 i e he (by omega) h5
  by_cases h6 : i < 175
  · exact cokR_of ckl6 i e he (by omega) h6
  by_cases h7 : i < 200
  · exact cokR_of ckl7 i e he (by omega) h7
  by_cases h8 : i < 225
  · exact cokR_of ckl8 i e he (by omega) h8
  by_cases h9 : i < 250
  · exact cokR_of ckl9 i e he (by omega) h9
  by_cases h10 : i < 275
  · exact cokR_of ckl10 i e he (by omega) h10
  by_cases h11 : i < 300
  · exact cokR_of ckl11 i e he (by omega) h11
  by_cases h12 : i < 325
  · exact cokR_of ckl12 i e he (by omega) h12
  by_cases h13 : i < 350
  · exact cokR_of ckl13 i e he (by omega) h13
  by_cases h14 : i < 375
  · exact cokR_of ckl14 i e he (by omega) h14
  by_cases h15 : i < 400
  · exact cokR_of ckl15 i e he (by omega) h15
  by_cases h16 : i < 425
  · exact cokR_of ckl16 i e he (by omega) h16
  by_cases h17 : i < 450
  · exact cokR_of ckl17 i e he (by omega) h17
  by_cases h18 : i < 475
  · exact cokR_of ckl18 i e he (by omega) h18
  by_cases h19 : i < 500
  · exact cokR_of ckl19 i e he (by omega) h19
  by_cases h20 : i < 525
  · exact cokR_of ckl20 i e he (by omega) h20
  by_cases h21 : i < 550
  · exact cokR_of ckl21 i e he (by omega) h21
  by_cases h22 : i < 575
  · exact cokR_of ckl22 i e he (by omega) h22
  by_cases h23 : i < 600
  · exact cokR_of ckl23 i e he (by omega) h23
  by_cases h24 : i < 625
  · exact cokR_of ckl24 i e he (by omega) h24
  by_cases h25 : i < 650
  · exact cokR_of ckl25 i e he (by omega) h25
  by_cases h26 : i < 675
  · exact cokR_of ckl26 i e he (by omega) h26
  by_cases h27 : i < 700
  · exact cokR_of ckl27 i e he (by omega) h27
  by_cases h28 : i < 725
  · exact cokR_of ckl28 i e he (by omega) h28
  by_cases h29 : i < 750
  · exact cokR_of ckl29 i e he (by omega) h29
  by_cases h30 : i < 775
  · exact cokR_of ckl30 i e he (by omega) h30
  by_cases h31 : i < 800
  · exact cokR_of ckl31 i e he (by omega) h31
  by_cases h32 : i < 825
  · exact cokR_of ckl32 i e he (by omega) h32
  by_cases h33 : i < 850
  · exact cokR_of ckl33 i e he (by omega) h33
  by_cases h34 : i < 875
  · exact cokR_of ckl34 i e he (by omega) h34
  by_cases h35 : i < 900
  · exact cokR_of ckl35 i e he (by omega) h35
  by_cases h36 : i < 925
  · exact cokR_of ckl36 i e he (by omega) h36
  by_cases h37 : i < 950
  · exact cokR_of ckl37 i e he (by omega) h37
  by_cases h38 : i < 975
  · exact cokR_of ckl38 i e he (by omega) h38
  by_cases h39 : i < 1000
  · exact cokR_of ckl39 i e he (by omega) h39
  by_cases h40 : i < 1025
  · exact cokR_of ckl40 i e he (by omega) h40
  by_cases h41 : i < 1050
  · exact cokR_of ckl41 i e he (by omega) h41
  by_cases h42 : i < 1075
  · exact cokR_of ckl42 i e he (by omega) h42
  by_cases h43 : i < 1100
  · exact cokR_of ckl43 i e he (by omega) h43
  by_cases h44 : i < 1125
  · exact cokR_of ckl44 i e he (by omega) h44
  by_cases h45 : i < 1150
  · exact cokR_of ckl45 i e he (by omega) h45
  by_cases h46 : i < 1175
  · exact cokR_of ckl46 i e he (by omega) h46
  by_cases h47 : i < 1200
  · exact cokR_of ckl47 i e he (by omega) h47
  by_cases h48 : i < 1225
  · exact cokR_of ckl48 i e he (by omega) h48
  by_cases h49 : i < 1250
  · exact cokR_of ckl49 i e he (by omega) h49
  by_cases h50 : i < 1275
  · exact cokR_of ckl50 i e he (by omega) h50
  by_cases h51 : i < 1300
  · exact cokR_of ckl51 i e he (by omega) h51
  by_cases h52 : i < 1325
  · exact cokR_of ckl52 i e he (by omega) h52
  by_cases h53 : i < 1350
  · exact cokR_of ckl53 i e he (by omega) h53
  by_cases h54 : i < 1375
  · exact cokR_of ckl54 i e he (by omega) h54
  omega
