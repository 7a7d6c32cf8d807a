/-! the two methods that read texts are given from outside (xB); all contracts -/
def xB : mm_C := fun mi args h Q => (mi = 201 ∧ ∃ (pt ps pg pr : Value) (s : xs_S) (a0 a1 v : Int32) (s2 : xs_S), args = [.ref 1, .int a0, .int a1] ∧ h = xs_H pt ps pg pr s ∧ xf_8_kindOf s a0 a1 = some (v, s2) ∧ Q (some (.int v)) (xs_H pt ps pg pr s2)) ∨ (mi = 203 ∧ ∃ (pt ps pg pr : Value) (s : xs_S) (a0 a1 a2 v : Int32) (s2 : xs_S), args = [.ref 1, .int a0, .int a1, .int a2] ∧ h = xs_H pt ps pg pr s ∧ xf_8_isQuoted s a0 a1 a2 = some (v, s2) ∧ Q (some (.int v)) (xs_H pt ps pg pr s2))
theorem xt_8_kindOf (d : Nat) : xk_8_kindOf (mm_ct xB mm_Mk mm_Fk mm_PC (d + 1)) := fun pt ps pg pr s a0 a1 v s2 Q hf hK => Or.inl (Or.inl ⟨rfl, pt, ps, pg, pr, s, a0, a1, v, s2, rfl, rfl, hf, hK⟩)
theorem xt_8_isQuoted (d : Nat) : xk_8_isQuoted (mm_ct xB mm_Mk mm_Fk mm_PC (d + 1)) := fun pt ps pg pr s a0 a1 a2 v s2 Q hf hK => Or.inl (Or.inr ⟨rfl, pt, ps, pg, pr, s, a0, a1, a2, v, s2, rfl, rfl, hf, hK⟩)
theorem xle {k : mm_C → Prop} {B : mm_C} {K D : Nat} (h : ∀ d, k (mm_ct B mm_Mk mm_Fk mm_PC (d + K))) (hK : K ≤ D) : k (mm_ct B mm_Mk mm_Fk mm_PC D) := by
  have h1 := h (D - K)
  rwa [Nat.sub_add_cancel hK] at h1
set_option maxRecDepth 100000 in
theorem xt_8_append (B : mm_C) (d : Nat) : xk_8_append (mm_ct B mm_Mk mm_Fk mm_PC (d + 1)) := fun pt ps pg pr s a0 s2 Q hf hK => Or.inr (xb_8_append  s a0 s2 hf hK)
set_option maxRecDepth 100000 in
theorem xt_11_feed (B : mm_C) (d : Nat) : xk_11_feed (mm_ct B mm_Mk mm_Fk mm_PC (d + 2)) := fun pt ps pg pr s a0 a1 a2 a3 a4 v s2 Q hf hK => Or.inr (xb_11_feed (xt_8_append B (d + 0)) s a0 a1 a2 a3 a4 v s2 hf hK)
set_option maxRecDepth 100000 in
theorem xt_11_back (B : mm_C) (d : Nat) : xk_11_back (mm_ct B mm_Mk mm_Fk mm_PC (d + 1)) := fun pt ps pg pr s a0 v s2 Q hf hK => Or.inr (xb_11_back  s a0 v s2 hf hK)
set_option maxRecDepth 100000 in
theorem xt_7_fill_53178_22 (B : mm_C) (d : Nat) : xk_7_fill_53178_22 (mm_ct B mm_Mk mm_Fk mm_PC (d + 1)) := fun pt ps pg pr s a1 s2 Q hf hK => Or.inr (xb_7_fill_53178_22  s a1 s2 hf hK)
set_option maxRecDepth 100000 in
theorem xt_3_clear_20 (B : mm_C) (d : Nat) : xk_3_clear_20 (mm_ct B mm_Mk mm_Fk mm_PC (d + 2)) := fun pt ps pg pr s s2 Q hf hK => Or.inr (xb_3_clear_20 (xt_7_fill_53178_22 B (d + 0)) s s2 hf hK)
set_option maxRecDepth 100000 in
theorem xt_7_clear_17 (B : mm_C) (d : Nat) : xk_7_clear_17 (mm_ct B mm_Mk mm_Fk mm_PC (d + 3)) := fun pt ps pg pr s s2 Q hf hK => Or.inr (xb_7_clear_17 (xt_3_clear_20 B (d + 0)) s s2 hf hK)
set_option maxRecDepth 100000 in
theorem xt_8_isBlank (B : mm_C) (d : Nat) : xk_8_isBlank (mm_ct B mm_Mk mm_Fk mm_PC (d + 1)) := fun h a0 v Q hf hK => Or.inr (xb_8_isBlank  a0 v hf hK)
set_option maxRecDepth 100000 in
theorem xt_8_afterBlanks (B : mm_C) (d : Nat) : xk_8_afterBlanks (mm_ct B mm_Mk mm_Fk mm_PC (d + 2)) := fun pt ps pg pr s a0 v s2 Q hf hK => Or.inr (xb_8_afterBlanks (xt_8_isBlank B (d + 0)) s a0 v s2 hf hK)
set_option maxRecDepth 100000 in
theorem xt_8_isLetter (B : mm_C) (d : Nat) : xk_8_isLetter (mm_ct B mm_Mk mm_Fk mm_PC (d + 1)) := fun h a0 v Q hf hK => Or.inr (xb_8_isLetter  a0 v hf hK)
set_option maxRecDepth 100000 in
theorem xt_8_isDigit (B : mm_C) (d : Nat) : xk_8_isDigit (mm_ct B mm_Mk mm_Fk mm_PC (d + 1)) := fun h a0 v Q hf hK => Or.inr (xb_8_isDigit  a0 v hf hK)
set_option maxRecDepth 100000 in
theorem xt_8_endOf (B : mm_C) (d : Nat) : xk_8_endOf (mm_ct B mm_Mk mm_Fk mm_PC (d + 2)) := fun pt ps pg pr s a0 v s2 Q hf hK => Or.inr (xb_8_endOf (xt_8_isLetter B (d + 0)) (xt_8_isDigit B (d + 0)) s a0 v s2 hf hK)
set_option maxRecDepth 100000 in
theorem xt_8_kindOfLetters (d : Nat) : xk_8_kindOfLetters (mm_ct xB mm_Mk mm_Fk mm_PC (d + 2)) := fun pt ps pg pr s a0 a1 v s2 Q hf hK => Or.inr (xb_8_kindOfLetters (xt_8_isQuoted (d + 0)) s a0 a1 v s2 hf hK)
set_option maxRecDepth 100000 in
theorem xt_8_valueOf (B : mm_C) (d : Nat) : xk_8_valueOf (mm_ct B mm_Mk mm_Fk mm_PC (d + 2)) := fun pt ps pg pr s a0 a1 v s2 Q hf hK => Or.inr (xb_8_valueOf (xt_8_isDigit B (d + 0)) s a0 a1 v s2 hf hK)
set_option maxRecDepth 100000 in
theorem xt_8_put (B : mm_C) (d : Nat) : xk_8_put (mm_ct B mm_Mk mm_Fk mm_PC (d + 1)) := fun pt ps pg pr s a0 a1 a2 s2 Q hf hK => Or.inr (xb_8_put  s a0 a1 a2 s2 hf hK)
set_option maxRecDepth 100000 in
theorem xt_8_scan (d : Nat) : xk_8_scan (mm_ct xB mm_Mk mm_Fk mm_PC (d + 3)) := fun pt ps pg pr s s2 Q hf hK => Or.inr (xb_8_scan (xt_8_afterBlanks xB (d + 0)) (xt_8_endOf xB (d + 0)) (xt_8_kindOf (d + 1)) (xt_8_valueOf xB (d + 0)) (xt_8_put xB (d + 1)) s s2 hf hK)
set_option maxRecDepth 100000 in
theorem xt_6_kind (B : mm_C) (d : Nat) : xk_6_kind (mm_ct B mm_Mk mm_Fk mm_PC (d + 1)) := fun pt ps pg pr s v s2 Q hf hK => Or.inr (xb_6_kind  s v s2 hf hK)
set_option maxRecDepth 100000 in
theorem xt_6_fail (B : mm_C) (d : Nat) : xk_6_fail (mm_ct B mm_Mk mm_Fk mm_PC (d + 1)) := fun pt ps pg pr s a0 s2 Q hf hK => Or.inr (xb_6_fail  s a0 s2 hf hK)
set_option maxRecDepth 100000 in
theorem xt_6_take (B : mm_C) (d : Nat) : xk_6_take (mm_ct B mm_Mk mm_Fk mm_PC (d + 2)) := fun pt ps pg pr s a0 v s2 Q hf hK => Or.inr (xb_6_take (xt_6_kind B (d + 0)) (xt_6_fail B (d + 0)) s a0 v s2 hf hK)
set_option maxRecDepth 100000 in
theorem xt_6_value (B : mm_C) (d : Nat) : xk_6_value (mm_ct B mm_Mk mm_Fk mm_PC (d + 1)) := fun pt ps pg pr s v s2 Q hf hK => Or.inr (xb_6_value  s v s2 hf hK)
set_option maxRecDepth 100000 in
theorem xt_6_placeNow (B : mm_C) (d : Nat) : xk_6_placeNow (mm_ct B mm_Mk mm_Fk mm_PC (d + 1)) := fun pt ps pg pr s v s2 Q hf hK => Or.inr (xb_6_placeNow  s v s2 hf hK)
set_option maxRecDepth 100000 in
theorem xt_6_speakerNamed (B : mm_C) (d : Nat) : xk_6_speakerNamed (mm_ct B mm_Mk mm_Fk mm_PC (d + 1)) := fun pt ps pg s a0 v s2 Q hf hK => Or.inr (xb_6_speakerNamed  s a0 v s2 hf hK)
set_option maxRecDepth 100000 in
theorem xt_6_isTold (B : mm_C) (d : Nat) : xk_6_isTold (mm_ct B mm_Mk mm_Fk mm_PC (d + 2)) := fun pt ps pg s a0 v s2 Q hf hK => Or.inr (xb_6_isTold (xt_6_speakerNamed B (d + 0)) s a0 v s2 hf hK)
set_option maxRecDepth 100000 in
theorem xt_6_note (B : mm_C) (d : Nat) : xk_6_note (mm_ct B mm_Mk mm_Fk mm_PC (d + 1)) := fun pt ps pg pr s a0 a1 s2 Q hf hK => Or.inr (xb_6_note  s a0 a1 s2 hf hK)
set_option maxRecDepth 100000 in
theorem xt_6_takeNewName (B : mm_C) (d : Nat) : xk_6_takeNewName (mm_ct B mm_Mk mm_Fk mm_PC (d + 3)) := fun pt ps pg s v s2 Q hf hK => Or.inr (xb_6_takeNewName (xt_6_value B (d + 1)) (xt_6_placeNow B (d + 1)) (xt_6_take B (d + 0)) (xt_6_isTold B (d + 0)) (xt_6_note B (d + 1)) s v s2 hf hK)
set_option maxRecDepth 100000 in
theorem xt_6_takeInt (B : mm_C) (d : Nat) : xk_6_takeInt (mm_ct B mm_Mk mm_Fk mm_PC (d + 3)) := fun pt ps pg pr s a0 a1 v s2 Q hf hK => Or.inr (xb_6_takeInt (xt_6_value B (d + 1)) (xt_6_placeNow B (d + 1)) (xt_6_take B (d + 0)) (xt_6_note B (d + 1)) s a0 a1 v s2 hf hK)
set_option maxRecDepth 100000 in
theorem xt_6_tellSpeaker (B : mm_C) (d : Nat) : xk_6_tellSpeaker (mm_ct B mm_Mk mm_Fk mm_PC (d + 4)) := fun pt ps pg s s2 Q hf hK => Or.inr (xb_6_tellSpeaker (xt_6_take B (d + 1)) (xt_6_takeNewName B (d + 0)) (xt_6_takeInt B (d + 0)) (xt_6_fail B (d + 2)) s s2 hf hK)
set_option maxRecDepth 100000 in
theorem xt_6_tellWord (B : mm_C) (d : Nat) : xk_6_tellWord (mm_ct B mm_Mk mm_Fk mm_PC (d + 4)) := fun pt ps pg s s2 Q hf hK => Or.inr (xb_6_tellWord (xt_6_take B (d + 1)) (xt_6_takeNewName B (d + 0)) (xt_6_takeInt B (d + 0)) (xt_6_fail B (d + 2)) s s2 hf hK)
set_option maxRecDepth 100000 in
theorem xt_6_takeSpeaker (B : mm_C) (d : Nat) : xk_6_takeSpeaker (mm_ct B mm_Mk mm_Fk mm_PC (d + 3)) := fun pt ps pg s a0 v s2 Q hf hK => Or.inr (xb_6_takeSpeaker (xt_6_value B (d + 1)) (xt_6_speakerNamed B (d + 1)) (xt_6_placeNow B (d + 1)) (xt_6_take B (d + 0)) (xt_6_note B (d + 1)) s a0 v s2 hf hK)
set_option maxRecDepth 100000 in
theorem xt_6_tellPair (B : mm_C) (d : Nat) : xk_6_tellPair (mm_ct B mm_Mk mm_Fk mm_PC (d + 4)) := fun pt ps pg s s2 Q hf hK => Or.inr (xb_6_tellPair (xt_6_take B (d + 1)) (xt_6_takeSpeaker B (d + 0)) s s2 hf hK)
set_option maxRecDepth 100000 in
theorem xt_3_emit_20 (B : mm_C) (d : Nat) : xk_3_emit_20 (mm_ct B mm_Mk mm_Fk mm_PC (d + 1)) := fun pt ps pg pr s a0 s2 Q hf hK => Or.inr (xb_3_emit_20  s a0 s2 hf hK)
set_option maxRecDepth 100000 in
theorem xt_6_unit (B : mm_C) {rec : xs_S → Int32 → Option xs_S} (D : Nat) (hD : 2 ≤ D) (hrec : xr_6_sum rec (mm_ct B mm_Mk mm_Fk mm_PC D)) : xk_6_unit rec (mm_ct B mm_Mk mm_Fk mm_PC (D + 1)) := fun pt ps pg s a0 s2 Q hf hK => Or.inr (xb_6_unit hrec (xle (k := xk_6_kind) (xt_6_kind B) (by omega)) (xle (k := xk_6_take) (xt_6_take B) (by omega)) (xle (k := xk_6_fail) (xt_6_fail B) (by omega)) (xle (k := xk_6_value) (xt_6_value B) (by omega)) (xle (k := xk_3_emit_20) (xt_3_emit_20 B) (by omega)) s a0 s2 hf hK)
set_option maxRecDepth 100000 in
theorem xt_6_product (B : mm_C) {rec : xs_S → Int32 → Option xs_S} (D : Nat) (hD : 2 ≤ D) (hrec : xr_6_sum rec (mm_ct B mm_Mk mm_Fk mm_PC D)) : xk_6_product rec (mm_ct B mm_Mk mm_Fk mm_PC (D + 2)) := fun pt ps pg s a0 s2 Q hf hK => Or.inr (xb_6_product (xt_6_unit B D hD hrec) (xle (k := xk_6_kind) (xt_6_kind B) (by omega)) (xle (k := xk_6_take) (xt_6_take B) (by omega)) (xle (k := xk_3_emit_20) (xt_3_emit_20 B) (by omega)) s a0 s2 hf hK)
set_option maxRecDepth 100000 in
theorem xt_6_sum (B : mm_C) : ∀ (n D : Nat), 2 + 3 * n ≤ D → xk_6_sum n (mm_ct B mm_Mk mm_Fk mm_PC D)
  | 0, D, _ => fun pt ps pg s a0 s2 Q hf _ => by simp [xf_6_sum] at hf
  | n + 1, D0, hD0 => by
    obtain ⟨D, rfl⟩ : ∃ D, D0 = D + 3 := ⟨D0 - 3, by omega⟩
    have hD : 2 ≤ D := by omega
    have hrec : xr_6_sum (xf_6_sum n) (mm_ct B mm_Mk mm_Fk mm_PC D) := xt_6_sum B n D (by omega)
    exact fun pt ps pg s a0 s2 Q hf hK => Or.inr (xb_6_sum (rec := xf_6_sum n) (xt_6_product B D hD hrec) (xle (k := xk_6_kind) (xt_6_kind B) (by omega)) (xle (k := xk_6_take) (xt_6_take B) (by omega)) (xle (k := xk_3_emit_20) (xt_3_emit_20 B) (by omega)) s a0 s2 hf hK)
set_option maxRecDepth 100000 in
theorem xt_3_fill_20 (B : mm_C) (d : Nat) : xk_3_fill_20 (mm_ct B mm_Mk mm_Fk mm_PC (d + 1)) := fun pt ps pg pr s a0 a1 s2 Q hf hK => Or.inr (xb_3_fill_20  s a0 a1 s2 hf hK)
set_option maxRecDepth 100000 in
theorem xt_6_tellLaw (B : mm_C) (d : Nat) : xk_6_tellLaw (mm_ct B mm_Mk mm_Fk mm_PC (d + 27)) := fun pt ps pg s s2 Q hf hK => Or.inr (xb_6_tellLaw (xt_6_kind B (d + 25)) (xt_6_fail B (d + 25)) (xt_6_take B (d + 24)) (xt_6_sum B 8 _ (by omega)) (xt_3_emit_20 B (d + 25)) (xt_3_fill_20 B (d + 25)) s s2 hf hK)
set_option maxRecDepth 100000 in
theorem xt_6_tellNumber (B : mm_C) (d : Nat) : xk_6_tellNumber (mm_ct B mm_Mk mm_Fk mm_PC (d + 4)) := fun pt ps pg pr s a0 a1 a2 v s2 Q hf hK => Or.inr (xb_6_tellNumber (xt_6_take B (d + 1)) (xt_6_takeInt B (d + 0)) s a0 a1 a2 v s2 hf hK)
set_option maxRecDepth 100000 in
theorem xt_6_conclude (B : mm_C) (d : Nat) : xk_6_conclude (mm_ct B mm_Mk mm_Fk mm_PC (d + 2)) := fun pt ps pg pr s s2 Q hf hK => Or.inr (xb_6_conclude (xt_6_placeNow B (d + 0)) s s2 hf hK)
set_option maxRecDepth 100000 in
theorem xt_6_readInto_17 (d : Nat) : xk_6_readInto_17 (mm_ct xB mm_Mk mm_Fk mm_PC (d + 28)) := fun pt ps pg s v s2 Q hf hK => Or.inr (xb_6_readInto_17 (xt_7_clear_17 xB (d + 24)) (xt_8_scan (d + 24)) (xt_6_kind xB (d + 26)) (xt_6_tellSpeaker xB (d + 23)) (xt_6_tellWord xB (d + 23)) (xt_6_tellPair xB (d + 23)) (xt_6_tellLaw xB (d + 0)) (xt_6_tellNumber xB (d + 23)) (xt_6_conclude xB (d + 25)) s v s2 hf hK)
set_option maxRecDepth 100000 in
theorem xt_11_standingOf (B : mm_C) (d : Nat) : xk_11_standingOf (mm_ct B mm_Mk mm_Fk mm_PC (d + 1)) := fun h a0 a1 a2 v Q hf hK => Or.inr (xb_11_standingOf  a0 a1 a2 v hf hK)
set_option maxRecDepth 100000 in
theorem xt_7_evenStanding_17 (B : mm_C) (d : Nat) : xk_7_evenStanding_17 (mm_ct B mm_Mk mm_Fk mm_PC (d + 2)) := fun pt ps pg pr s v s2 Q hf hK => Or.inr (xb_7_evenStanding_17 (xt_11_standingOf B (d + 0)) s v s2 hf hK)
set_option maxRecDepth 100000 in
theorem xt_7_fill_53178_26 (B : mm_C) (d : Nat) : xk_7_fill_53178_26 (mm_ct B mm_Mk mm_Fk mm_PC (d + 1)) := fun pt ps pg pr s a1 s2 Q hf hK => Or.inr (xb_7_fill_53178_26  s a1 s2 hf hK)
set_option maxRecDepth 100000 in
theorem xt_2_begin_25_17 (B : mm_C) (d : Nat) : xk_2_begin_25_17 (mm_ct B mm_Mk mm_Fk mm_PC (d + 3)) := fun pt ps pg pr s s2 Q hf hK => Or.inr (xb_2_begin_25_17 (xt_7_evenStanding_17 B (d + 0)) (xt_7_fill_53178_26 B (d + 1)) s s2 hf hK)
set_option maxRecDepth 100000 in
theorem xt_7_fill_53178_138 (B : mm_C) (d : Nat) : xk_7_fill_53178_138 (mm_ct B mm_Mk mm_Fk mm_PC (d + 1)) := fun pt ps pg pr s a1 s2 Q hf hK => Or.inr (xb_7_fill_53178_138  s a1 s2 hf hK)
set_option maxRecDepth 100000 in
theorem xt_1_lift (B : mm_C) (d : Nat) : xk_1_lift (mm_ct B mm_Mk mm_Fk mm_PC (d + 1)) := fun pt ps pr s s2 Q hf hK => Or.inr (xb_1_lift  s s2 hf hK)
set_option maxRecDepth 100000 in
theorem xt_7_fill_53178_118 (B : mm_C) (d : Nat) : xk_7_fill_53178_118 (mm_ct B mm_Mk mm_Fk mm_PC (d + 1)) := fun pt ps pg pr s a1 s2 Q hf hK => Or.inr (xb_7_fill_53178_118  s a1 s2 hf hK)
set_option maxRecDepth 100000 in
theorem xt_1_lay_17_p2n (B : mm_C) (d : Nat) : xk_1_lay_17_p2n (mm_ct B mm_Mk mm_Fk mm_PC (d + 2)) := fun pt ps pr s a1 a2 s2 Q hf hK => Or.inr (xb_1_lay_17_p2n (xt_7_fill_53178_118 B (d + 0)) s a1 a2 s2 hf hK)
set_option maxRecDepth 100000 in
theorem xt_11_beginAnew_p017 (B : mm_C) (d : Nat) : xk_11_beginAnew_p017 (mm_ct B mm_Mk mm_Fk mm_PC (d + 4)) := fun ps pr s s2 Q hf hK => Or.inr (xb_11_beginAnew_p017 (xt_2_begin_25_17 B (d + 0)) (xt_7_fill_53178_138 B (d + 2)) (xt_1_lift B (d + 2)) (xt_1_lay_17_p2n B (d + 1)) s s2 hf hK)
set_option maxRecDepth 100000 in
theorem xt_11_place (B : mm_C) (d : Nat) : xk_11_place (mm_ct B mm_Mk mm_Fk mm_PC (d + 1)) := fun pt ps pg pr s v s2 Q hf hK => Or.inr (xb_11_place  s v s2 hf hK)
set_option maxRecDepth 100000 in
theorem xt_7_hasSpeaker_9 (B : mm_C) (d : Nat) : xk_7_hasSpeaker_9 (mm_ct B mm_Mk mm_Fk mm_PC (d + 1)) := fun pt ps pg pr s a0 v s2 Q hf hK => Or.inr (xb_7_hasSpeaker_9  s a0 v s2 hf hK)
set_option maxRecDepth 100000 in
theorem xt_11_speaker (B : mm_C) (d : Nat) : xk_11_speaker (mm_ct B mm_Mk mm_Fk mm_PC (d + 2)) := fun ps pg pr s a0 a1 v s2 Q hf hK => Or.inr (xb_11_speaker (xt_7_hasSpeaker_9 B (d + 0)) s a0 a1 v s2 hf hK)
set_option maxRecDepth 100000 in
theorem xt_7_hasWord_9 (B : mm_C) (d : Nat) : xk_7_hasWord_9 (mm_ct B mm_Mk mm_Fk mm_PC (d + 1)) := fun pt ps pg pr s a0 v s2 Q hf hK => Or.inr (xb_7_hasWord_9  s a0 v s2 hf hK)
set_option maxRecDepth 100000 in
theorem xt_1_hasPair (B : mm_C) (d : Nat) : xk_1_hasPair (mm_ct B mm_Mk mm_Fk mm_PC (d + 1)) := fun pt ps pr s v s2 Q hf hK => Or.inr (xb_1_hasPair  s v s2 hf hK)
set_option maxRecDepth 100000 in
theorem xt_11_slopeOf (B : mm_C) (d : Nat) : xk_11_slopeOf (mm_ct B mm_Mk mm_Fk mm_PC (d + 1)) := fun h a0 v Q hf hK => Or.inr (xb_11_slopeOf  a0 v hf hK)
set_option maxRecDepth 100000 in
theorem xt_11_isAwake (B : mm_C) (d : Nat) : xk_11_isAwake (mm_ct B mm_Mk mm_Fk mm_PC (d + 2)) := fun h a0 v Q hf hK => Or.inr (xb_11_isAwake (xt_11_slopeOf B (d + 0)) a0 v hf hK)
set_option maxRecDepth 100000 in
theorem xt_11_lastOf (B : mm_C) (d : Nat) : xk_11_lastOf (mm_ct B mm_Mk mm_Fk mm_PC (d + 1)) := fun h a0 v Q hf hK => Or.inr (xb_11_lastOf  a0 v hf hK)
set_option maxRecDepth 100000 in
theorem xt_11_turnOf (B : mm_C) (d : Nat) : xk_11_turnOf (mm_ct B mm_Mk mm_Fk mm_PC (d + 1)) := fun h a0 v Q hf hK => Or.inr (xb_11_turnOf  a0 v hf hK)
set_option maxRecDepth 100000 in
theorem xt_7_tongueOf_9 (B : mm_C) (d : Nat) : xk_7_tongueOf_9 (mm_ct B mm_Mk mm_Fk mm_PC (d + 2)) := fun pt ps pg pr s a0 v s2 Q hf hK => Or.inr (xb_7_tongueOf_9 (xt_7_hasSpeaker_9 B (d + 0)) s a0 v s2 hf hK)
set_option maxRecDepth 100000 in
theorem xt_3_reckon (B : mm_C) (d : Nat) : xk_3_reckon (mm_ct B mm_Mk mm_Fk mm_PC (d + 1)) := fun h a0 a1 a2 v Q hf hK => Or.inr (xb_3_reckon  a0 a1 a2 v hf hK)
set_option maxRecDepth 100000 in
theorem xt_3_untold_12 (B : mm_C) (d : Nat) : xk_3_untold_12 (mm_ct B mm_Mk mm_Fk mm_PC (d + 1)) := fun pt ps pg pr s a0 v s2 Q hf hK => Or.inr (xb_3_untold_12  s a0 v s2 hf hK)
set_option maxRecDepth 100000 in
theorem xt_3_value_12 (B : mm_C) (d : Nat) : xk_3_value_12 (mm_ct B mm_Mk mm_Fk mm_PC (d + 2)) := fun pt ps pg pr s a0 v s2 Q hf hK => Or.inr (xb_3_value_12 (xt_3_reckon B (d + 0)) (xt_3_untold_12 B (d + 0)) s a0 v s2 hf hK)
set_option maxRecDepth 100000 in
theorem xt_7_lawOf_9 (B : mm_C) (d : Nat) : xk_7_lawOf_9 (mm_ct B mm_Mk mm_Fk mm_PC (d + 3)) := fun pt ps pg pr s a0 a1 a2 a3 a4 v s2 Q hf hK => Or.inr (xb_7_lawOf_9 (xt_11_turnOf B (d + 1)) (xt_11_lastOf B (d + 1)) (xt_7_hasWord_9 B (d + 1)) (xt_7_tongueOf_9 B (d + 0)) (xt_11_slopeOf B (d + 1)) (xt_3_value_12 B (d + 0)) s a0 a1 a2 a3 a4 v s2 hf hK)
set_option maxRecDepth 100000 in
theorem xt_11_within (B : mm_C) (d : Nat) : xk_11_within (mm_ct B mm_Mk mm_Fk mm_PC (d + 1)) := fun h a0 a1 v Q hf hK => Or.inr (xb_11_within  a0 a1 v hf hK)
set_option maxRecDepth 100000 in
theorem xt_1_pushed (B : mm_C) (d : Nat) : xk_1_pushed (mm_ct B mm_Mk mm_Fk mm_PC (d + 2)) := fun h a0 a1 a2 v Q hf hK => Or.inr (xb_1_pushed (xt_11_turnOf B (d + 0)) (xt_11_slopeOf B (d + 0)) (xt_11_within B (d + 0)) (xt_11_standingOf B (d + 0)) a0 a1 a2 v hf hK)
set_option maxRecDepth 100000 in
theorem xt_1_rested (B : mm_C) (d : Nat) : xk_1_rested (mm_ct B mm_Mk mm_Fk mm_PC (d + 2)) := fun h a0 a1 v Q hf hK => Or.inr (xb_1_rested (xt_11_slopeOf B (d + 0)) (xt_11_turnOf B (d + 0)) (xt_11_standingOf B (d + 0)) a0 a1 v hf hK)
set_option maxRecDepth 100000 in
theorem xt_1_open (B : mm_C) (d : Nat) : xk_1_open (mm_ct B mm_Mk mm_Fk mm_PC (d + 4)) := fun pt ps pr s a0 s2 Q hf hK => Or.inr (xb_1_open (xt_1_hasPair B (d + 2)) (xt_11_isAwake B (d + 1)) (xt_11_lastOf B (d + 2)) (xt_7_lawOf_9 B (d + 0)) (xt_11_within B (d + 2)) (xt_1_pushed B (d + 1)) (xt_1_rested B (d + 1)) s a0 s2 hf hK)
set_option maxRecDepth 100000 in
theorem xt_11_sayable (B : mm_C) (d : Nat) : xk_11_sayable (mm_ct B mm_Mk mm_Fk mm_PC (d + 5)) := fun pt ps pr s v s2 Q hf hK => Or.inr (xb_11_sayable (xt_1_open B (d + 0)) s v s2 hf hK)
set_option maxRecDepth 100000 in
theorem xt_1_pushesOf (B : mm_C) (d : Nat) : xk_1_pushesOf (mm_ct B mm_Mk mm_Fk mm_PC (d + 4)) := fun pt ps pr s a0 a1 v s2 Q hf hK => Or.inr (xb_1_pushesOf (xt_1_hasPair B (d + 2)) (xt_7_lawOf_9 B (d + 0)) (xt_11_within B (d + 2)) s a0 a1 v s2 hf hK)
set_option maxRecDepth 100000 in
theorem xt_1_isBarred (B : mm_C) (d : Nat) : xk_1_isBarred (mm_ct B mm_Mk mm_Fk mm_PC (d + 4)) := fun pt ps pr s a0 a1 v s2 Q hf hK => Or.inr (xb_1_isBarred (xt_1_hasPair B (d + 2)) (xt_7_lawOf_9 B (d + 0)) s a0 a1 v s2 hf hK)
set_option maxRecDepth 100000 in
theorem xt_11_word (B : mm_C) (d : Nat) : xk_11_word (mm_ct B mm_Mk mm_Fk mm_PC (d + 6)) := fun ps pr s a0 a1 v s2 Q hf hK => Or.inr (xb_11_word (xt_7_hasWord_9 B (d + 4)) (xt_11_sayable B (d + 0)) (xt_1_pushesOf B (d + 1)) (xt_1_isBarred B (d + 1)) s a0 a1 v s2 hf hK)
set_option maxRecDepth 100000 in
theorem xt_1_after (B : mm_C) (d : Nat) : xk_1_after (mm_ct B mm_Mk mm_Fk mm_PC (d + 1)) := fun pt ps pg pr s a0 a1 a2 v s2 Q hf hK => Or.inr (xb_1_after  s a0 a1 a2 v s2 hf hK)
set_option maxRecDepth 100000 in
theorem xt_2_copyFrom_29_25 (B : mm_C) (d : Nat) : xk_2_copyFrom_29_25 (mm_ct B mm_Mk mm_Fk mm_PC (d + 1)) := fun pt ps pg pr s s2 Q hf hK => Or.inr (xb_2_copyFrom_29_25  s s2 hf hK)
set_option maxRecDepth 100000 in
theorem xt_2_copyFrom_31_25 (B : mm_C) (d : Nat) : xk_2_copyFrom_31_25 (mm_ct B mm_Mk mm_Fk mm_PC (d + 1)) := fun pt ps pg pr s s2 Q hf hK => Or.inr (xb_2_copyFrom_31_25  s s2 hf hK)
set_option maxRecDepth 100000 in
theorem xt_2_copyFrom_33_25 (B : mm_C) (d : Nat) : xk_2_copyFrom_33_25 (mm_ct B mm_Mk mm_Fk mm_PC (d + 1)) := fun pt ps pg pr s s2 Q hf hK => Or.inr (xb_2_copyFrom_33_25  s s2 hf hK)
set_option maxRecDepth 100000 in
theorem xt_2_copyFrom_35_25 (B : mm_C) (d : Nat) : xk_2_copyFrom_35_25 (mm_ct B mm_Mk mm_Fk mm_PC (d + 1)) := fun pt ps pg pr s s2 Q hf hK => Or.inr (xb_2_copyFrom_35_25  s s2 hf hK)
set_option maxRecDepth 100000 in
theorem xt_2_copyFrom_37_25 (B : mm_C) (d : Nat) : xk_2_copyFrom_37_25 (mm_ct B mm_Mk mm_Fk mm_PC (d + 1)) := fun pt ps pg pr s s2 Q hf hK => Or.inr (xb_2_copyFrom_37_25  s s2 hf hK)
set_option maxRecDepth 100000 in
theorem xt_2_copyFrom_39_25 (B : mm_C) (d : Nat) : xk_2_copyFrom_39_25 (mm_ct B mm_Mk mm_Fk mm_PC (d + 1)) := fun pt ps pg pr s s2 Q hf hK => Or.inr (xb_2_copyFrom_39_25  s s2 hf hK)
set_option maxRecDepth 100000 in
theorem xt_2_copyFrom_41_25 (B : mm_C) (d : Nat) : xk_2_copyFrom_41_25 (mm_ct B mm_Mk mm_Fk mm_PC (d + 1)) := fun pt ps pg pr s s2 Q hf hK => Or.inr (xb_2_copyFrom_41_25  s s2 hf hK)
set_option maxRecDepth 100000 in
theorem xt_2_copyFrom_43_25 (B : mm_C) (d : Nat) : xk_2_copyFrom_43_25 (mm_ct B mm_Mk mm_Fk mm_PC (d + 1)) := fun pt ps pg pr s s2 Q hf hK => Or.inr (xb_2_copyFrom_43_25  s s2 hf hK)
set_option maxRecDepth 100000 in
theorem xt_2_copyFrom_45_25 (B : mm_C) (d : Nat) : xk_2_copyFrom_45_25 (mm_ct B mm_Mk mm_Fk mm_PC (d + 1)) := fun pt ps pg pr s s2 Q hf hK => Or.inr (xb_2_copyFrom_45_25  s s2 hf hK)
set_option maxRecDepth 100000 in
theorem xt_2_copyFrom_47_25 (B : mm_C) (d : Nat) : xk_2_copyFrom_47_25 (mm_ct B mm_Mk mm_Fk mm_PC (d + 1)) := fun pt ps pg pr s s2 Q hf hK => Or.inr (xb_2_copyFrom_47_25  s s2 hf hK)
set_option maxRecDepth 100000 in
theorem xt_2_copyFrom_49_25 (B : mm_C) (d : Nat) : xk_2_copyFrom_49_25 (mm_ct B mm_Mk mm_Fk mm_PC (d + 1)) := fun pt ps pg pr s s2 Q hf hK => Or.inr (xb_2_copyFrom_49_25  s s2 hf hK)
set_option maxRecDepth 100000 in
theorem xt_2_copyFrom_51_25 (B : mm_C) (d : Nat) : xk_2_copyFrom_51_25 (mm_ct B mm_Mk mm_Fk mm_PC (d + 1)) := fun pt ps pg pr s s2 Q hf hK => Or.inr (xb_2_copyFrom_51_25  s s2 hf hK)
set_option maxRecDepth 100000 in
theorem xt_2_copyFrom_53_25 (B : mm_C) (d : Nat) : xk_2_copyFrom_53_25 (mm_ct B mm_Mk mm_Fk mm_PC (d + 1)) := fun pt ps pg pr s s2 Q hf hK => Or.inr (xb_2_copyFrom_53_25  s s2 hf hK)
set_option maxRecDepth 100000 in
theorem xt_2_copyFrom_55_25 (B : mm_C) (d : Nat) : xk_2_copyFrom_55_25 (mm_ct B mm_Mk mm_Fk mm_PC (d + 1)) := fun pt ps pg pr s s2 Q hf hK => Or.inr (xb_2_copyFrom_55_25  s s2 hf hK)
set_option maxRecDepth 100000 in
theorem xt_2_copyFrom_57_25 (B : mm_C) (d : Nat) : xk_2_copyFrom_57_25 (mm_ct B mm_Mk mm_Fk mm_PC (d + 1)) := fun pt ps pg pr s s2 Q hf hK => Or.inr (xb_2_copyFrom_57_25  s s2 hf hK)
set_option maxRecDepth 100000 in
theorem xt_2_copyFrom_59_25 (B : mm_C) (d : Nat) : xk_2_copyFrom_59_25 (mm_ct B mm_Mk mm_Fk mm_PC (d + 1)) := fun pt ps pg pr s s2 Q hf hK => Or.inr (xb_2_copyFrom_59_25  s s2 hf hK)
set_option maxRecDepth 100000 in
theorem xt_2_copyFrom_61_25 (B : mm_C) (d : Nat) : xk_2_copyFrom_61_25 (mm_ct B mm_Mk mm_Fk mm_PC (d + 1)) := fun pt ps pg pr s s2 Q hf hK => Or.inr (xb_2_copyFrom_61_25  s s2 hf hK)
set_option maxRecDepth 100000 in
theorem xt_2_copyFrom_63_25 (B : mm_C) (d : Nat) : xk_2_copyFrom_63_25 (mm_ct B mm_Mk mm_Fk mm_PC (d + 1)) := fun pt ps pg pr s s2 Q hf hK => Or.inr (xb_2_copyFrom_63_25  s s2 hf hK)
set_option maxRecDepth 100000 in
theorem xt_2_copyFrom_65_25 (B : mm_C) (d : Nat) : xk_2_copyFrom_65_25 (mm_ct B mm_Mk mm_Fk mm_PC (d + 1)) := fun pt ps pg pr s s2 Q hf hK => Or.inr (xb_2_copyFrom_65_25  s s2 hf hK)
set_option maxRecDepth 100000 in
theorem xt_2_copyFrom_67_25 (B : mm_C) (d : Nat) : xk_2_copyFrom_67_25 (mm_ct B mm_Mk mm_Fk mm_PC (d + 1)) := fun pt ps pg pr s s2 Q hf hK => Or.inr (xb_2_copyFrom_67_25  s s2 hf hK)
set_option maxRecDepth 100000 in
theorem xt_2_copyFrom_69_25 (B : mm_C) (d : Nat) : xk_2_copyFrom_69_25 (mm_ct B mm_Mk mm_Fk mm_PC (d + 1)) := fun pt ps pg pr s s2 Q hf hK => Or.inr (xb_2_copyFrom_69_25  s s2 hf hK)
set_option maxRecDepth 100000 in
theorem xt_2_copyFrom_71_25 (B : mm_C) (d : Nat) : xk_2_copyFrom_71_25 (mm_ct B mm_Mk mm_Fk mm_PC (d + 1)) := fun pt ps pg pr s s2 Q hf hK => Or.inr (xb_2_copyFrom_71_25  s s2 hf hK)
set_option maxRecDepth 100000 in
theorem xt_2_copyFrom_73_25 (B : mm_C) (d : Nat) : xk_2_copyFrom_73_25 (mm_ct B mm_Mk mm_Fk mm_PC (d + 1)) := fun pt ps pg pr s s2 Q hf hK => Or.inr (xb_2_copyFrom_73_25  s s2 hf hK)
set_option maxRecDepth 100000 in
theorem xt_2_copyFrom_75_25 (B : mm_C) (d : Nat) : xk_2_copyFrom_75_25 (mm_ct B mm_Mk mm_Fk mm_PC (d + 1)) := fun pt ps pg pr s s2 Q hf hK => Or.inr (xb_2_copyFrom_75_25  s s2 hf hK)
set_option maxRecDepth 100000 in
theorem xt_2_copyFrom_77_25 (B : mm_C) (d : Nat) : xk_2_copyFrom_77_25 (mm_ct B mm_Mk mm_Fk mm_PC (d + 1)) := fun pt ps pg pr s s2 Q hf hK => Or.inr (xb_2_copyFrom_77_25  s s2 hf hK)
set_option maxRecDepth 100000 in
theorem xt_2_copyFrom_79_25 (B : mm_C) (d : Nat) : xk_2_copyFrom_79_25 (mm_ct B mm_Mk mm_Fk mm_PC (d + 1)) := fun pt ps pg pr s s2 Q hf hK => Or.inr (xb_2_copyFrom_79_25  s s2 hf hK)
set_option maxRecDepth 100000 in
theorem xt_2_copyFrom_81_25 (B : mm_C) (d : Nat) : xk_2_copyFrom_81_25 (mm_ct B mm_Mk mm_Fk mm_PC (d + 1)) := fun pt ps pg pr s s2 Q hf hK => Or.inr (xb_2_copyFrom_81_25  s s2 hf hK)
set_option maxRecDepth 100000 in
theorem xt_2_copyFrom_83_25 (B : mm_C) (d : Nat) : xk_2_copyFrom_83_25 (mm_ct B mm_Mk mm_Fk mm_PC (d + 1)) := fun pt ps pg pr s s2 Q hf hK => Or.inr (xb_2_copyFrom_83_25  s s2 hf hK)
set_option maxRecDepth 100000 in
theorem xt_2_copyFrom_85_25 (B : mm_C) (d : Nat) : xk_2_copyFrom_85_25 (mm_ct B mm_Mk mm_Fk mm_PC (d + 1)) := fun pt ps pg pr s s2 Q hf hK => Or.inr (xb_2_copyFrom_85_25  s s2 hf hK)
set_option maxRecDepth 100000 in
theorem xt_2_copyFrom_87_25 (B : mm_C) (d : Nat) : xk_2_copyFrom_87_25 (mm_ct B mm_Mk mm_Fk mm_PC (d + 1)) := fun pt ps pg pr s s2 Q hf hK => Or.inr (xb_2_copyFrom_87_25  s s2 hf hK)
set_option maxRecDepth 100000 in
theorem xt_2_copyFrom_89_25 (B : mm_C) (d : Nat) : xk_2_copyFrom_89_25 (mm_ct B mm_Mk mm_Fk mm_PC (d + 1)) := fun pt ps pg pr s s2 Q hf hK => Or.inr (xb_2_copyFrom_89_25  s s2 hf hK)
set_option maxRecDepth 100000 in
theorem xt_2_copyFrom_91_25 (B : mm_C) (d : Nat) : xk_2_copyFrom_91_25 (mm_ct B mm_Mk mm_Fk mm_PC (d + 1)) := fun pt ps pg pr s s2 Q hf hK => Or.inr (xb_2_copyFrom_91_25  s s2 hf hK)
set_option maxRecDepth 100000 in
theorem xt_2_copyFrom_93_25 (B : mm_C) (d : Nat) : xk_2_copyFrom_93_25 (mm_ct B mm_Mk mm_Fk mm_PC (d + 1)) := fun pt ps pg pr s s2 Q hf hK => Or.inr (xb_2_copyFrom_93_25  s s2 hf hK)
set_option maxRecDepth 100000 in
theorem xt_2_copyFrom_95_25 (B : mm_C) (d : Nat) : xk_2_copyFrom_95_25 (mm_ct B mm_Mk mm_Fk mm_PC (d + 1)) := fun pt ps pg pr s s2 Q hf hK => Or.inr (xb_2_copyFrom_95_25  s s2 hf hK)
set_option maxRecDepth 100000 in
theorem xt_2_copyFrom_97_25 (B : mm_C) (d : Nat) : xk_2_copyFrom_97_25 (mm_ct B mm_Mk mm_Fk mm_PC (d + 1)) := fun pt ps pg pr s s2 Q hf hK => Or.inr (xb_2_copyFrom_97_25  s s2 hf hK)
set_option maxRecDepth 100000 in
theorem xt_2_copyFrom_99_25 (B : mm_C) (d : Nat) : xk_2_copyFrom_99_25 (mm_ct B mm_Mk mm_Fk mm_PC (d + 1)) := fun pt ps pg pr s s2 Q hf hK => Or.inr (xb_2_copyFrom_99_25  s s2 hf hK)
set_option maxRecDepth 100000 in
theorem xt_2_copyFrom_101_25 (B : mm_C) (d : Nat) : xk_2_copyFrom_101_25 (mm_ct B mm_Mk mm_Fk mm_PC (d + 1)) := fun pt ps pg pr s s2 Q hf hK => Or.inr (xb_2_copyFrom_101_25  s s2 hf hK)
set_option maxRecDepth 100000 in
theorem xt_2_copyFrom_103_25 (B : mm_C) (d : Nat) : xk_2_copyFrom_103_25 (mm_ct B mm_Mk mm_Fk mm_PC (d + 1)) := fun pt ps pg pr s s2 Q hf hK => Or.inr (xb_2_copyFrom_103_25  s s2 hf hK)
set_option maxRecDepth 100000 in
theorem xt_2_copyFrom_105_25 (B : mm_C) (d : Nat) : xk_2_copyFrom_105_25 (mm_ct B mm_Mk mm_Fk mm_PC (d + 1)) := fun pt ps pg pr s s2 Q hf hK => Or.inr (xb_2_copyFrom_105_25  s s2 hf hK)
set_option maxRecDepth 100000 in
theorem xt_2_copyFrom_107_25 (B : mm_C) (d : Nat) : xk_2_copyFrom_107_25 (mm_ct B mm_Mk mm_Fk mm_PC (d + 1)) := fun pt ps pg pr s s2 Q hf hK => Or.inr (xb_2_copyFrom_107_25  s s2 hf hK)
set_option maxRecDepth 100000 in
theorem xt_5_keep_25 (B : mm_C) (d : Nat) : xk_5_keep_25 (mm_ct B mm_Mk mm_Fk mm_PC (d + 2)) := fun pt ps pg pr s s2 Q hf hK => Or.inr (xb_5_keep_25 (xt_2_copyFrom_29_25 B (d + 0)) (xt_2_copyFrom_31_25 B (d + 0)) (xt_2_copyFrom_33_25 B (d + 0)) (xt_2_copyFrom_35_25 B (d + 0)) (xt_2_copyFrom_37_25 B (d + 0)) (xt_2_copyFrom_39_25 B (d + 0)) (xt_2_copyFrom_41_25 B (d + 0)) (xt_2_copyFrom_43_25 B (d + 0)) (xt_2_copyFrom_45_25 B (d + 0)) (xt_2_copyFrom_47_25 B (d + 0)) (xt_2_copyFrom_49_25 B (d + 0)) (xt_2_copyFrom_51_25 B (d + 0)) (xt_2_copyFrom_53_25 B (d + 0)) (xt_2_copyFrom_55_25 B (d + 0)) (xt_2_copyFrom_57_25 B (d + 0)) (xt_2_copyFrom_59_25 B (d + 0)) (xt_2_copyFrom_61_25 B (d + 0)) (xt_2_copyFrom_63_25 B (d + 0)) (xt_2_copyFrom_65_25 B (d + 0)) (xt_2_copyFrom_67_25 B (d + 0)) (xt_2_copyFrom_69_25 B (d + 0)) (xt_2_copyFrom_71_25 B (d + 0)) (xt_2_copyFrom_73_25 B (d + 0)) (xt_2_copyFrom_75_25 B (d + 0)) (xt_2_copyFrom_77_25 B (d + 0)) (xt_2_copyFrom_79_25 B (d + 0)) (xt_2_copyFrom_81_25 B (d + 0)) (xt_2_copyFrom_83_25 B (d + 0)) (xt_2_copyFrom_85_25 B (d + 0)) (xt_2_copyFrom_87_25 B (d + 0)) (xt_2_copyFrom_89_25 B (d + 0)) (xt_2_copyFrom_91_25 B (d + 0)) (xt_2_copyFrom_93_25 B (d + 0)) (xt_2_copyFrom_95_25 B (d + 0)) (xt_2_copyFrom_97_25 B (d + 0)) (xt_2_copyFrom_99_25 B (d + 0)) (xt_2_copyFrom_101_25 B (d + 0)) (xt_2_copyFrom_103_25 B (d + 0)) (xt_2_copyFrom_105_25 B (d + 0)) (xt_2_copyFrom_107_25 B (d + 0)) s s2 hf hK)
set_option maxRecDepth 100000 in
theorem xt_11_takeTurn (B : mm_C) (d : Nat) : xk_11_takeTurn (mm_ct B mm_Mk mm_Fk mm_PC (d + 5)) := fun pt ps pr s a0 v s2 Q hf hK => Or.inr (xb_11_takeTurn (xt_1_open B (d + 0)) (xt_1_after B (d + 3)) (xt_5_keep_25 B (d + 2)) (xt_11_slopeOf B (d + 3)) s a0 v s2 hf hK)
set_option maxRecDepth 100000 in
theorem xt_11_say (B : mm_C) (d : Nat) : xk_11_say (mm_ct B mm_Mk mm_Fk mm_PC (d + 6)) := fun ps pr s a0 v s2 Q hf hK => Or.inr (xb_11_say (xt_7_hasWord_9 B (d + 4)) (xt_11_takeTurn B (d + 0)) s a0 v s2 hf hK)
set_option maxRecDepth 100000 in
theorem xt_11_pass (B : mm_C) (d : Nat) : xk_11_pass (mm_ct B mm_Mk mm_Fk mm_PC (d + 6)) := fun pt ps pr s v s2 Q hf hK => Or.inr (xb_11_pass (xt_11_takeTurn B (d + 0)) s v s2 hf hK)
set_option maxRecDepth 100000 in
theorem xt_11_areTwo (B : mm_C) (d : Nat) : xk_11_areTwo (mm_ct B mm_Mk mm_Fk mm_PC (d + 2)) := fun ps pg pr s a0 a1 v s2 Q hf hK => Or.inr (xb_11_areTwo (xt_7_hasSpeaker_9 B (d + 0)) s a0 a1 v s2 hf hK)
set_option maxRecDepth 100000 in
theorem xt_7_wagesOfBoth_9 (B : mm_C) (d : Nat) : xk_7_wagesOfBoth_9 (mm_ct B mm_Mk mm_Fk mm_PC (d + 4)) := fun pt ps pg pr s a0 a1 v s2 Q hf hK => Or.inr (xb_7_wagesOfBoth_9 (xt_11_standingOf B (d + 2)) (xt_7_lawOf_9 B (d + 0)) (xt_11_within B (d + 2)) s a0 a1 v s2 hf hK)
set_option maxRecDepth 100000 in
theorem xt_7_evenStanding_9 (B : mm_C) (d : Nat) : xk_7_evenStanding_9 (mm_ct B mm_Mk mm_Fk mm_PC (d + 2)) := fun pt ps pg pr s v s2 Q hf hK => Or.inr (xb_7_evenStanding_9 (xt_11_standingOf B (d + 0)) s v s2 hf hK)
set_option maxRecDepth 100000 in
theorem xt_1_lay_9 (B : mm_C) (d : Nat) : xk_1_lay_9 (mm_ct B mm_Mk mm_Fk mm_PC (d + 2)) := fun pt ps pr s a1 a2 s2 Q hf hK => Or.inr (xb_1_lay_9 (xt_7_fill_53178_118 B (d + 0)) s a1 a2 s2 hf hK)
set_option maxRecDepth 100000 in
theorem xt_11_hire (B : mm_C) (d : Nat) : xk_11_hire (mm_ct B mm_Mk mm_Fk mm_PC (d + 5)) := fun ps pr s a0 a1 v s2 Q hf hK => Or.inr (xb_11_hire (xt_11_areTwo B (d + 2)) (xt_5_keep_25 B (d + 2)) (xt_7_wagesOfBoth_9 B (d + 0)) (xt_7_evenStanding_9 B (d + 2)) (xt_1_lay_9 B (d + 2)) s a0 a1 v s2 hf hK)
set_option maxRecDepth 100000 in
theorem xt_11_set (B : mm_C) (d : Nat) : xk_11_set (mm_ct B mm_Mk mm_Fk mm_PC (d + 3)) := fun ps pg pr s v s2 Q hf hK => Or.inr (xb_11_set (xt_7_evenStanding_9 B (d + 0)) (xt_5_keep_25 B (d + 0)) s v s2 hf hK)
set_option maxRecDepth 100000 in
theorem xt_6_bitCount_0f7a4 (B : mm_C) (d : Nat) : xk_6_bitCount_0f7a4 (mm_ct B mm_Mk mm_Fk mm_PC (d + 1)) := fun h a0 v Q hf hK => Or.inr (xb_6_bitCount_0f7a4  a0 v hf hK)
set_option maxRecDepth 100000 in
theorem xt_11_stir (B : mm_C) (d : Nat) : xk_11_stir (mm_ct B mm_Mk mm_Fk mm_PC (d + 1)) := fun h a0 a1 v Q hf hK => Or.inr (xb_11_stir  a0 a1 v hf hK)
set_option maxRecDepth 100000 in
theorem xt_11_lot (B : mm_C) (d : Nat) : xk_11_lot (mm_ct B mm_Mk mm_Fk mm_PC (d + 2)) := fun h a0 a1 a2 v Q hf hK => Or.inr (xb_11_lot (xt_11_stir B (d + 0)) a0 a1 a2 v hf hK)
set_option maxRecDepth 100000 in
theorem xt_1_moveByLot (B : mm_C) (d : Nat) : xk_1_moveByLot (mm_ct B mm_Mk mm_Fk mm_PC (d + 3)) := fun h a0 a1 a2 v Q hf hK => Or.inr (xb_1_moveByLot (xt_6_bitCount_0f7a4 B (d + 1)) (xt_11_lot B (d + 0)) a0 a1 a2 v hf hK)
set_option maxRecDepth 100000 in
theorem xt_1_afterMinutes (B : mm_C) (d : Nat) : xk_1_afterMinutes (mm_ct B mm_Mk mm_Fk mm_PC (d + 5)) := fun pt ps pr s a0 a1 a2 a3 v s2 Q hf hK => Or.inr (xb_1_afterMinutes (xt_1_open B (d + 0)) (xt_1_moveByLot B (d + 1)) (xt_1_after B (d + 3)) s a0 a1 a2 a3 v s2 hf hK)
set_option maxRecDepth 100000 in
theorem xt_11_minutes (B : mm_C) (d : Nat) : xk_11_minutes (mm_ct B mm_Mk mm_Fk mm_PC (d + 6)) := fun ps pr s a0 v s2 Q hf hK => Or.inr (xb_11_minutes (xt_5_keep_25 B (d + 3)) (xt_1_afterMinutes B (d + 0)) s a0 v s2 hf hK)
set_option maxRecDepth 100000 in
theorem xt_2_copyFrom_25_29 (B : mm_C) (d : Nat) : xk_2_copyFrom_25_29 (mm_ct B mm_Mk mm_Fk mm_PC (d + 1)) := fun pt ps pg pr s s2 Q hf hK => Or.inr (xb_2_copyFrom_25_29  s s2 hf hK)
set_option maxRecDepth 100000 in
theorem xt_2_copyFrom_25_31 (B : mm_C) (d : Nat) : xk_2_copyFrom_25_31 (mm_ct B mm_Mk mm_Fk mm_PC (d + 1)) := fun pt ps pg pr s s2 Q hf hK => Or.inr (xb_2_copyFrom_25_31  s s2 hf hK)
set_option maxRecDepth 100000 in
theorem xt_2_copyFrom_25_33 (B : mm_C) (d : Nat) : xk_2_copyFrom_25_33 (mm_ct B mm_Mk mm_Fk mm_PC (d + 1)) := fun pt ps pg pr s s2 Q hf hK => Or.inr (xb_2_copyFrom_25_33  s s2 hf hK)
set_option maxRecDepth 100000 in
theorem xt_2_copyFrom_25_35 (B : mm_C) (d : Nat) : xk_2_copyFrom_25_35 (mm_ct B mm_Mk mm_Fk mm_PC (d + 1)) := fun pt ps pg pr s s2 Q hf hK => Or.inr (xb_2_copyFrom_25_35  s s2 hf hK)
set_option maxRecDepth 100000 in
theorem xt_2_copyFrom_25_37 (B : mm_C) (d : Nat) : xk_2_copyFrom_25_37 (mm_ct B mm_Mk mm_Fk mm_PC (d + 1)) := fun pt ps pg pr s s2 Q hf hK => Or.inr (xb_2_copyFrom_25_37  s s2 hf hK)
set_option maxRecDepth 100000 in
theorem xt_2_copyFrom_25_39 (B : mm_C) (d : Nat) : xk_2_copyFrom_25_39 (mm_ct B mm_Mk mm_Fk mm_PC (d + 1)) := fun pt ps pg pr s s2 Q hf hK => Or.inr (xb_2_copyFrom_25_39  s s2 hf hK)
set_option maxRecDepth 100000 in
theorem xt_2_copyFrom_25_41 (B : mm_C) (d : Nat) : xk_2_copyFrom_25_41 (mm_ct B mm_Mk mm_Fk mm_PC (d + 1)) := fun pt ps pg pr s s2 Q hf hK => Or.inr (xb_2_copyFrom_25_41  s s2 hf hK)
set_option maxRecDepth 100000 in
theorem xt_2_copyFrom_25_43 (B : mm_C) (d : Nat) : xk_2_copyFrom_25_43 (mm_ct B mm_Mk mm_Fk mm_PC (d + 1)) := fun pt ps pg pr s s2 Q hf hK => Or.inr (xb_2_copyFrom_25_43  s s2 hf hK)
set_option maxRecDepth 100000 in
theorem xt_2_copyFrom_25_45 (B : mm_C) (d : Nat) : xk_2_copyFrom_25_45 (mm_ct B mm_Mk mm_Fk mm_PC (d + 1)) := fun pt ps pg pr s s2 Q hf hK => Or.inr (xb_2_copyFrom_25_45  s s2 hf hK)
set_option maxRecDepth 100000 in
theorem xt_2_copyFrom_25_47 (B : mm_C) (d : Nat) : xk_2_copyFrom_25_47 (mm_ct B mm_Mk mm_Fk mm_PC (d + 1)) := fun pt ps pg pr s s2 Q hf hK => Or.inr (xb_2_copyFrom_25_47  s s2 hf hK)
set_option maxRecDepth 100000 in
theorem xt_2_copyFrom_25_49 (B : mm_C) (d : Nat) : xk_2_copyFrom_25_49 (mm_ct B mm_Mk mm_Fk mm_PC (d + 1)) := fun pt ps pg pr s s2 Q hf hK => Or.inr (xb_2_copyFrom_25_49  s s2 hf hK)
set_option maxRecDepth 100000 in
theorem xt_2_copyFrom_25_51 (B : mm_C) (d : Nat) : xk_2_copyFrom_25_51 (mm_ct B mm_Mk mm_Fk mm_PC (d + 1)) := fun pt ps pg pr s s2 Q hf hK => Or.inr (xb_2_copyFrom_25_51  s s2 hf hK)
set_option maxRecDepth 100000 in
theorem xt_2_copyFrom_25_53 (B : mm_C) (d : Nat) : xk_2_copyFrom_25_53 (mm_ct B mm_Mk mm_Fk mm_PC (d + 1)) := fun pt ps pg pr s s2 Q hf hK => Or.inr (xb_2_copyFrom_25_53  s s2 hf hK)
set_option maxRecDepth 100000 in
theorem xt_2_copyFrom_25_55 (B : mm_C) (d : Nat) : xk_2_copyFrom_25_55 (mm_ct B mm_Mk mm_Fk mm_PC (d + 1)) := fun pt ps pg pr s s2 Q hf hK => Or.inr (xb_2_copyFrom_25_55  s s2 hf hK)
set_option maxRecDepth 100000 in
theorem xt_2_copyFrom_25_57 (B : mm_C) (d : Nat) : xk_2_copyFrom_25_57 (mm_ct B mm_Mk mm_Fk mm_PC (d + 1)) := fun pt ps pg pr s s2 Q hf hK => Or.inr (xb_2_copyFrom_25_57  s s2 hf hK)
set_option maxRecDepth 100000 in
theorem xt_2_copyFrom_25_59 (B : mm_C) (d : Nat) : xk_2_copyFrom_25_59 (mm_ct B mm_Mk mm_Fk mm_PC (d + 1)) := fun pt ps pg pr s s2 Q hf hK => Or.inr (xb_2_copyFrom_25_59  s s2 hf hK)
set_option maxRecDepth 100000 in
theorem xt_2_copyFrom_25_61 (B : mm_C) (d : Nat) : xk_2_copyFrom_25_61 (mm_ct B mm_Mk mm_Fk mm_PC (d + 1)) := fun pt ps pg pr s s2 Q hf hK => Or.inr (xb_2_copyFrom_25_61  s s2 hf hK)
set_option maxRecDepth 100000 in
theorem xt_2_copyFrom_25_63 (B : mm_C) (d : Nat) : xk_2_copyFrom_25_63 (mm_ct B mm_Mk mm_Fk mm_PC (d + 1)) := fun pt ps pg pr s s2 Q hf hK => Or.inr (xb_2_copyFrom_25_63  s s2 hf hK)
set_option maxRecDepth 100000 in
theorem xt_2_copyFrom_25_65 (B : mm_C) (d : Nat) : xk_2_copyFrom_25_65 (mm_ct B mm_Mk mm_Fk mm_PC (d + 1)) := fun pt ps pg pr s s2 Q hf hK => Or.inr (xb_2_copyFrom_25_65  s s2 hf hK)
set_option maxRecDepth 100000 in
theorem xt_2_copyFrom_25_67 (B : mm_C) (d : Nat) : xk_2_copyFrom_25_67 (mm_ct B mm_Mk mm_Fk mm_PC (d + 1)) := fun pt ps pg pr s s2 Q hf hK => Or.inr (xb_2_copyFrom_25_67  s s2 hf hK)
set_option maxRecDepth 100000 in
theorem xt_2_copyFrom_25_69 (B : mm_C) (d : Nat) : xk_2_copyFrom_25_69 (mm_ct B mm_Mk mm_Fk mm_PC (d + 1)) := fun pt ps pg pr s s2 Q hf hK => Or.inr (xb_2_copyFrom_25_69  s s2 hf hK)
set_option maxRecDepth 100000 in
theorem xt_2_copyFrom_25_71 (B : mm_C) (d : Nat) : xk_2_copyFrom_25_71 (mm_ct B mm_Mk mm_Fk mm_PC (d + 1)) := fun pt ps pg pr s s2 Q hf hK => Or.inr (xb_2_copyFrom_25_71  s s2 hf hK)
set_option maxRecDepth 100000 in
theorem xt_2_copyFrom_25_73 (B : mm_C) (d : Nat) : xk_2_copyFrom_25_73 (mm_ct B mm_Mk mm_Fk mm_PC (d + 1)) := fun pt ps pg pr s s2 Q hf hK => Or.inr (xb_2_copyFrom_25_73  s s2 hf hK)
set_option maxRecDepth 100000 in
theorem xt_2_copyFrom_25_75 (B : mm_C) (d : Nat) : xk_2_copyFrom_25_75 (mm_ct B mm_Mk mm_Fk mm_PC (d + 1)) := fun pt ps pg pr s s2 Q hf hK => Or.inr (xb_2_copyFrom_25_75  s s2 hf hK)
set_option maxRecDepth 100000 in
theorem xt_2_copyFrom_25_77 (B : mm_C) (d : Nat) : xk_2_copyFrom_25_77 (mm_ct B mm_Mk mm_Fk mm_PC (d + 1)) := fun pt ps pg pr s s2 Q hf hK => Or.inr (xb_2_copyFrom_25_77  s s2 hf hK)
set_option maxRecDepth 100000 in
theorem xt_2_copyFrom_25_79 (B : mm_C) (d : Nat) : xk_2_copyFrom_25_79 (mm_ct B mm_Mk mm_Fk mm_PC (d + 1)) := fun pt ps pg pr s s2 Q hf hK => Or.inr (xb_2_copyFrom_25_79  s s2 hf hK)
set_option maxRecDepth 100000 in
theorem xt_2_copyFrom_25_81 (B : mm_C) (d : Nat) : xk_2_copyFrom_25_81 (mm_ct B mm_Mk mm_Fk mm_PC (d + 1)) := fun pt ps pg pr s s2 Q hf hK => Or.inr (xb_2_copyFrom_25_81  s s2 hf hK)
set_option maxRecDepth 100000 in
theorem xt_2_copyFrom_25_83 (B : mm_C) (d : Nat) : xk_2_copyFrom_25_83 (mm_ct B mm_Mk mm_Fk mm_PC (d + 1)) := fun pt ps pg pr s s2 Q hf hK => Or.inr (xb_2_copyFrom_25_83  s s2 hf hK)
set_option maxRecDepth 100000 in
theorem xt_2_copyFrom_25_85 (B : mm_C) (d : Nat) : xk_2_copyFrom_25_85 (mm_ct B mm_Mk mm_Fk mm_PC (d + 1)) := fun pt ps pg pr s s2 Q hf hK => Or.inr (xb_2_copyFrom_25_85  s s2 hf hK)
set_option maxRecDepth 100000 in
theorem xt_2_copyFrom_25_87 (B : mm_C) (d : Nat) : xk_2_copyFrom_25_87 (mm_ct B mm_Mk mm_Fk mm_PC (d + 1)) := fun pt ps pg pr s s2 Q hf hK => Or.inr (xb_2_copyFrom_25_87  s s2 hf hK)
set_option maxRecDepth 100000 in
theorem xt_2_copyFrom_25_89 (B : mm_C) (d : Nat) : xk_2_copyFrom_25_89 (mm_ct B mm_Mk mm_Fk mm_PC (d + 1)) := fun pt ps pg pr s s2 Q hf hK => Or.inr (xb_2_copyFrom_25_89  s s2 hf hK)
set_option maxRecDepth 100000 in
theorem xt_2_copyFrom_25_91 (B : mm_C) (d : Nat) : xk_2_copyFrom_25_91 (mm_ct B mm_Mk mm_Fk mm_PC (d + 1)) := fun pt ps pg pr s s2 Q hf hK => Or.inr (xb_2_copyFrom_25_91  s s2 hf hK)
set_option maxRecDepth 100000 in
theorem xt_2_copyFrom_25_93 (B : mm_C) (d : Nat) : xk_2_copyFrom_25_93 (mm_ct B mm_Mk mm_Fk mm_PC (d + 1)) := fun pt ps pg pr s s2 Q hf hK => Or.inr (xb_2_copyFrom_25_93  s s2 hf hK)
set_option maxRecDepth 100000 in
theorem xt_2_copyFrom_25_95 (B : mm_C) (d : Nat) : xk_2_copyFrom_25_95 (mm_ct B mm_Mk mm_Fk mm_PC (d + 1)) := fun pt ps pg pr s s2 Q hf hK => Or.inr (xb_2_copyFrom_25_95  s s2 hf hK)
set_option maxRecDepth 100000 in
theorem xt_2_copyFrom_25_97 (B : mm_C) (d : Nat) : xk_2_copyFrom_25_97 (mm_ct B mm_Mk mm_Fk mm_PC (d + 1)) := fun pt ps pg pr s s2 Q hf hK => Or.inr (xb_2_copyFrom_25_97  s s2 hf hK)
set_option maxRecDepth 100000 in
theorem xt_2_copyFrom_25_99 (B : mm_C) (d : Nat) : xk_2_copyFrom_25_99 (mm_ct B mm_Mk mm_Fk mm_PC (d + 1)) := fun pt ps pg pr s s2 Q hf hK => Or.inr (xb_2_copyFrom_25_99  s s2 hf hK)
set_option maxRecDepth 100000 in
theorem xt_2_copyFrom_25_101 (B : mm_C) (d : Nat) : xk_2_copyFrom_25_101 (mm_ct B mm_Mk mm_Fk mm_PC (d + 1)) := fun pt ps pg pr s s2 Q hf hK => Or.inr (xb_2_copyFrom_25_101  s s2 hf hK)
set_option maxRecDepth 100000 in
theorem xt_2_copyFrom_25_103 (B : mm_C) (d : Nat) : xk_2_copyFrom_25_103 (mm_ct B mm_Mk mm_Fk mm_PC (d + 1)) := fun pt ps pg pr s s2 Q hf hK => Or.inr (xb_2_copyFrom_25_103  s s2 hf hK)
set_option maxRecDepth 100000 in
theorem xt_2_copyFrom_25_105 (B : mm_C) (d : Nat) : xk_2_copyFrom_25_105 (mm_ct B mm_Mk mm_Fk mm_PC (d + 1)) := fun pt ps pg pr s s2 Q hf hK => Or.inr (xb_2_copyFrom_25_105  s s2 hf hK)
set_option maxRecDepth 100000 in
theorem xt_2_copyFrom_25_107 (B : mm_C) (d : Nat) : xk_2_copyFrom_25_107 (mm_ct B mm_Mk mm_Fk mm_PC (d + 1)) := fun pt ps pg pr s s2 Q hf hK => Or.inr (xb_2_copyFrom_25_107  s s2 hf hK)
set_option maxRecDepth 100000 in
theorem xt_5_takeBack_25 (B : mm_C) (d : Nat) : xk_5_takeBack_25 (mm_ct B mm_Mk mm_Fk mm_PC (d + 2)) := fun pt ps pg pr s v s2 Q hf hK => Or.inr (xb_5_takeBack_25 (xt_2_copyFrom_25_29 B (d + 0)) (xt_2_copyFrom_25_31 B (d + 0)) (xt_2_copyFrom_25_33 B (d + 0)) (xt_2_copyFrom_25_35 B (d + 0)) (xt_2_copyFrom_25_37 B (d + 0)) (xt_2_copyFrom_25_39 B (d + 0)) (xt_2_copyFrom_25_41 B (d + 0)) (xt_2_copyFrom_25_43 B (d + 0)) (xt_2_copyFrom_25_45 B (d + 0)) (xt_2_copyFrom_25_47 B (d + 0)) (xt_2_copyFrom_25_49 B (d + 0)) (xt_2_copyFrom_25_51 B (d + 0)) (xt_2_copyFrom_25_53 B (d + 0)) (xt_2_copyFrom_25_55 B (d + 0)) (xt_2_copyFrom_25_57 B (d + 0)) (xt_2_copyFrom_25_59 B (d + 0)) (xt_2_copyFrom_25_61 B (d + 0)) (xt_2_copyFrom_25_63 B (d + 0)) (xt_2_copyFrom_25_65 B (d + 0)) (xt_2_copyFrom_25_67 B (d + 0)) (xt_2_copyFrom_25_69 B (d + 0)) (xt_2_copyFrom_25_71 B (d + 0)) (xt_2_copyFrom_25_73 B (d + 0)) (xt_2_copyFrom_25_75 B (d + 0)) (xt_2_copyFrom_25_77 B (d + 0)) (xt_2_copyFrom_25_79 B (d + 0)) (xt_2_copyFrom_25_81 B (d + 0)) (xt_2_copyFrom_25_83 B (d + 0)) (xt_2_copyFrom_25_85 B (d + 0)) (xt_2_copyFrom_25_87 B (d + 0)) (xt_2_copyFrom_25_89 B (d + 0)) (xt_2_copyFrom_25_91 B (d + 0)) (xt_2_copyFrom_25_93 B (d + 0)) (xt_2_copyFrom_25_95 B (d + 0)) (xt_2_copyFrom_25_97 B (d + 0)) (xt_2_copyFrom_25_99 B (d + 0)) (xt_2_copyFrom_25_101 B (d + 0)) (xt_2_copyFrom_25_103 B (d + 0)) (xt_2_copyFrom_25_105 B (d + 0)) (xt_2_copyFrom_25_107 B (d + 0)) s v s2 hf hK)
set_option maxRecDepth 100000 in
theorem xt_11_undo (B : mm_C) (d : Nat) : xk_11_undo (mm_ct B mm_Mk mm_Fk mm_PC (d + 3)) := fun ps pr s v s2 Q hf hK => Or.inr (xb_11_undo (xt_5_takeBack_25 B (d + 0)) (xt_1_lay_9 B (d + 0)) s v s2 hf hK)
set_option maxRecDepth 100000 in
theorem xt_7_fill_53178_128 (B : mm_C) (d : Nat) : xk_7_fill_53178_128 (mm_ct B mm_Mk mm_Fk mm_PC (d + 1)) := fun pt ps pg pr s a1 s2 Q hf hK => Or.inr (xb_7_fill_53178_128  s a1 s2 hf hK)
set_option maxRecDepth 100000 in
theorem xt_0_spread (B : mm_C) (d : Nat) : xk_0_spread (mm_ct B mm_Mk mm_Fk mm_PC (d + 5)) := fun pt ps pr s a0 a1 s2 Q hf hK => Or.inr (xb_0_spread (xt_7_fill_53178_128 B (d + 3)) (xt_1_open B (d + 0)) (xt_1_after B (d + 3)) s a0 a1 s2 hf hK)
set_option maxRecDepth 100000 in
theorem xt_0_decide (B : mm_C) (d : Nat) : xk_0_decide (mm_ct B mm_Mk mm_Fk mm_PC (d + 2)) := fun pt ps pg pr s a0 a1 v s2 Q hf hK => Or.inr (xb_0_decide (xt_11_turnOf B (d + 0)) (xt_1_after B (d + 0)) s a0 a1 v s2 hf hK)
set_option maxRecDepth 100000 in
theorem xt_0_settle (B : mm_C) (d : Nat) : xk_0_settle (mm_ct B mm_Mk mm_Fk mm_PC (d + 3)) := fun pt ps pg pr s s2 Q hf hK => Or.inr (xb_0_settle (xt_11_slopeOf B (d + 1)) (xt_0_decide B (d + 0)) s s2 hf hK)
set_option maxRecDepth 100000 in
theorem xt_0_foresee (B : mm_C) (d : Nat) : xk_0_foresee (mm_ct B mm_Mk mm_Fk mm_PC (d + 6)) := fun pt ps pr s a0 a1 v s2 Q hf hK => Or.inr (xb_0_foresee (xt_0_spread B (d + 0)) (xt_0_settle B (d + 2)) s a0 a1 v s2 hf hK)
set_option maxRecDepth 100000 in
theorem xt_11_who (B : mm_C) (d : Nat) : xk_11_who (mm_ct B mm_Mk mm_Fk mm_PC (d + 7)) := fun pt ps pr s v s2 Q hf hK => Or.inr (xb_11_who (xt_0_foresee B (d + 0)) s v s2 hf hK)
set_option maxRecDepth 100000 in
theorem xt_11_soon (B : mm_C) (d : Nat) : xk_11_soon (mm_ct B mm_Mk mm_Fk mm_PC (d + 7)) := fun pt ps pr s v s2 Q hf hK => Or.inr (xb_11_soon (xt_0_foresee B (d + 0)) s v s2 hf hK)
set_option maxRecDepth 100000 in
theorem xt_0_worthOf (B : mm_C) (d : Nat) : xk_0_worthOf (mm_ct B mm_Mk mm_Fk mm_PC (d + 1)) := fun pt ps pg pr s a0 a1 v s2 Q hf hK => Or.inr (xb_0_worthOf  s a0 a1 v s2 hf hK)
set_option maxRecDepth 100000 in
theorem xt_0_bestMove (B : mm_C) (d : Nat) : xk_0_bestMove (mm_ct B mm_Mk mm_Fk mm_PC (d + 7)) := fun pt ps pr s a0 v s2 Q hf hK => Or.inr (xb_0_bestMove (xt_11_turnOf B (d + 5)) (xt_0_foresee B (d + 0)) (xt_1_after B (d + 5)) (xt_0_worthOf B (d + 5)) s a0 v s2 hf hK)
set_option maxRecDepth 100000 in
theorem xt_11_best (B : mm_C) (d : Nat) : xk_11_best (mm_ct B mm_Mk mm_Fk mm_PC (d + 8)) := fun pt ps pr s v s2 Q hf hK => Or.inr (xb_11_best (xt_0_bestMove B (d + 0)) s v s2 hf hK)
set_option maxRecDepth 100000 in
theorem xt_0_asleepTurns (B : mm_C) (d : Nat) : xk_0_asleepTurns (mm_ct B mm_Mk mm_Fk mm_PC (d + 3)) := fun pt ps pg pr s a0 v s2 Q hf hK => Or.inr (xb_0_asleepTurns (xt_1_after B (d + 1)) (xt_11_isAwake B (d + 0)) s a0 v s2 hf hK)
set_option maxRecDepth 100000 in
theorem xt_0_longestAsleep (B : mm_C) (d : Nat) : xk_0_longestAsleep (mm_ct B mm_Mk mm_Fk mm_PC (d + 6)) := fun pt ps pr s a0 a1 v s2 Q hf hK => Or.inr (xb_0_longestAsleep (xt_11_isAwake B (d + 3)) (xt_0_spread B (d + 0)) (xt_0_asleepTurns B (d + 2)) s a0 a1 v s2 hf hK)
set_option maxRecDepth 100000 in
theorem xt_11_together (B : mm_C) (d : Nat) : xk_11_together (mm_ct B mm_Mk mm_Fk mm_PC (d + 7)) := fun pt ps pr s v s2 Q hf hK => Or.inr (xb_11_together (xt_0_longestAsleep B (d + 0)) s v s2 hf hK)
set_option maxRecDepth 100000 in
theorem xt_11_leanOf (B : mm_C) (d : Nat) : xk_11_leanOf (mm_ct B mm_Mk mm_Fk mm_PC (d + 2)) := fun h a0 v Q hf hK => Or.inr (xb_11_leanOf (xt_11_slopeOf B (d + 0)) a0 v hf hK)
set_option maxRecDepth 100000 in
theorem xt_0_shortestRing (B : mm_C) (d : Nat) : xk_0_shortestRing (mm_ct B mm_Mk mm_Fk mm_PC (d + 6)) := fun pt ps pr s a0 v s2 Q hf hK => Or.inr (xb_0_shortestRing (xt_0_spread B (d + 0)) (xt_1_after B (d + 4)) s a0 v s2 hf hK)
set_option maxRecDepth 100000 in
theorem xt_11_ring (B : mm_C) (d : Nat) : xk_11_ring (mm_ct B mm_Mk mm_Fk mm_PC (d + 7)) := fun pt ps pr s v s2 Q hf hK => Or.inr (xb_11_ring (xt_0_shortestRing B (d + 0)) s v s2 hf hK)
set_option maxRecDepth 100000 in
theorem xt_11_reach (B : mm_C) (d : Nat) : xk_11_reach (mm_ct B mm_Mk mm_Fk mm_PC (d + 6)) := fun pt ps pr s v s2 Q hf hK => Or.inr (xb_11_reach (xt_0_spread B (d + 0)) s v s2 hf hK)
set_option maxRecDepth 100000 in
theorem xt_0_slopeBits (B : mm_C) (d : Nat) : xk_0_slopeBits (mm_ct B mm_Mk mm_Fk mm_PC (d + 2)) := fun pt ps pg pr s v s2 Q hf hK => Or.inr (xb_0_slopeBits (xt_11_slopeOf B (d + 0)) s v s2 hf hK)
set_option maxRecDepth 100000 in
theorem xt_11_slopes (B : mm_C) (d : Nat) : xk_11_slopes (mm_ct B mm_Mk mm_Fk mm_PC (d + 6)) := fun pt ps pr s v s2 Q hf hK => Or.inr (xb_11_slopes (xt_0_spread B (d + 0)) (xt_0_slopeBits B (d + 3)) s v s2 hf hK)
set_option maxRecDepth 100000 in
theorem xt_11_hangs (B : mm_C) (d : Nat) : xk_11_hangs (mm_ct B mm_Mk mm_Fk mm_PC (d + 7)) := fun ps pr s v s2 Q hf hK => Or.inr (xb_11_hangs (xt_0_foresee B (d + 0)) s v s2 hf hK)
set_option maxRecDepth 100000 in
theorem xt_11_scale (B : mm_C) (d : Nat) : xk_11_scale (mm_ct B mm_Mk mm_Fk mm_PC (d + 7)) := fun ps pr s a0 v s2 Q hf hK => Or.inr (xb_11_scale (xt_7_hasWord_9 B (d + 5)) (xt_1_open B (d + 2)) (xt_1_after B (d + 5)) (xt_0_foresee B (d + 0)) s a0 v s2 hf hK)
set_option maxRecDepth 100000 in
theorem xt_11_calmOf (B : mm_C) (d : Nat) : xk_11_calmOf (mm_ct B mm_Mk mm_Fk mm_PC (d + 7)) := fun ps pr s a0 a1 v s2 Q hf hK => Or.inr (xb_11_calmOf (xt_1_lay_9 B (d + 4)) (xt_7_evenStanding_9 B (d + 4)) (xt_0_foresee B (d + 0)) s a0 a1 v s2 hf hK)
set_option maxRecDepth 100000 in
theorem xt_11_calm (B : mm_C) (d : Nat) : xk_11_calm (mm_ct B mm_Mk mm_Fk mm_PC (d + 8)) := fun ps pr s a0 a1 v s2 Q hf hK => Or.inr (xb_11_calm (xt_11_areTwo B (d + 5)) (xt_11_calmOf B (d + 0)) s a0 a1 v s2 hf hK)
set_option maxRecDepth 100000 in
theorem xt_7_fill_53178_136 (B : mm_C) (d : Nat) : xk_7_fill_53178_136 (mm_ct B mm_Mk mm_Fk mm_PC (d + 1)) := fun pt ps pg pr s a1 s2 Q hf hK => Or.inr (xb_7_fill_53178_136  s a1 s2 hf hK)
set_option maxRecDepth 100000 in
theorem xt_4_begin (B : mm_C) (d : Nat) : xk_4_begin (mm_ct B mm_Mk mm_Fk mm_PC (d + 2)) := fun pt ps pg pr s a0 s2 Q hf hK => Or.inr (xb_4_begin (xt_7_fill_53178_136 B (d + 0)) s a0 s2 hf hK)
set_option maxRecDepth 100000 in
theorem xt_4_allow (B : mm_C) (d : Nat) : xk_4_allow (mm_ct B mm_Mk mm_Fk mm_PC (d + 1)) := fun pt ps pg pr s a0 a1 a2 s2 Q hf hK => Or.inr (xb_4_allow  s a0 a1 a2 s2 hf hK)
set_option maxRecDepth 100000 in
theorem xt_4_matchFrom (B : mm_C) : ∀ (n D : Nat), 1 + 1 * n ≤ D → xk_4_matchFrom n (mm_ct B mm_Mk mm_Fk mm_PC D)
  | 0, D, _ => fun pt ps pg pr s a0 a1 s2 Q hf _ => by simp [xf_4_matchFrom] at hf
  | n + 1, D0, hD0 => by
    obtain ⟨D, rfl⟩ : ∃ D, D0 = D + 1 := ⟨D0 - 1, by omega⟩
    have hD : 1 ≤ D := by omega
    have hrec : xr_4_matchFrom (xf_4_matchFrom n) (mm_ct B mm_Mk mm_Fk mm_PC D) := xt_4_matchFrom B n D (by omega)
    exact fun pt ps pg pr s a0 a1 s2 Q hf hK => Or.inr (xb_4_matchFrom (rec := xf_4_matchFrom n) hrec  s a0 a1 s2 hf hK)
set_option maxRecDepth 100000 in
theorem xt_4_match (B : mm_C) (d : Nat) : xk_4_match (mm_ct B mm_Mk mm_Fk mm_PC (d + 9)) := fun pt ps pg pr s s2 Q hf hK => Or.inr (xb_4_match (xt_4_matchFrom B 7 _ (by omega)) s s2 hf hK)
set_option maxRecDepth 100000 in
theorem xt_11_couples (B : mm_C) (d : Nat) : xk_11_couples (mm_ct B mm_Mk mm_Fk mm_PC (d + 10)) := fun ps pr s a0 v s2 Q hf hK => Or.inr (xb_11_couples (xt_4_begin B (d + 7)) (xt_11_calmOf B (d + 2)) (xt_4_allow B (d + 8)) (xt_4_match B (d + 0)) (xt_7_hasSpeaker_9 B (d + 8)) s a0 v s2 hf hK)
set_option maxRecDepth 100000 in
theorem xt_11_cheapest (B : mm_C) (d : Nat) : xk_11_cheapest (mm_ct B mm_Mk mm_Fk mm_PC (d + 8)) := fun ps pr s a0 v s2 Q hf hK => Or.inr (xb_11_cheapest (xt_7_wagesOfBoth_9 B (d + 3)) (xt_11_calmOf B (d + 0)) s a0 v s2 hf hK)
set_option maxRecDepth 100000 in
theorem xt_11_slopeIn (B : mm_C) (d : Nat) : xk_11_slopeIn (mm_ct B mm_Mk mm_Fk mm_PC (d + 6)) := fun ps pr s a0 v s2 Q hf hK => Or.inr (xb_11_slopeIn (xt_1_afterMinutes B (d + 0)) (xt_11_slopeOf B (d + 4)) s a0 v s2 hf hK)
set_option maxRecDepth 100000 in
theorem xt_11_year (B : mm_C) (d : Nat) : xk_11_year (mm_ct B mm_Mk mm_Fk mm_PC (d + 6)) := fun ps pr s a0 a1 v s2 Q hf hK => Or.inr (xb_11_year (xt_1_afterMinutes B (d + 0)) (xt_11_isAwake B (d + 3)) s a0 a1 v s2 hf hK)
set_option maxRecDepth 100000 in
theorem xt_9_add (B : mm_C) (d : Nat) : xk_9_add (mm_ct B mm_Mk mm_Fk mm_PC (d + 1)) := fun pt ps pg pr s a0 a1 a2 v s2 Q hf hK => Or.inr (xb_9_add  s a0 a1 a2 v s2 hf hK)
set_option maxRecDepth 100000 in
theorem xt_11_tell (B : mm_C) (d : Nat) : xk_11_tell (mm_ct B mm_Mk mm_Fk mm_PC (d + 2)) := fun pt ps pg pr s a0 a1 a2 v s2 Q hf hK => Or.inr (xb_11_tell (xt_9_add B (d + 0)) s a0 a1 a2 v s2 hf hK)
set_option maxRecDepth 100000 in
theorem xt_11_forget (B : mm_C) (d : Nat) : xk_11_forget (mm_ct B mm_Mk mm_Fk mm_PC (d + 1)) := fun pt ps pg pr s v s2 Q hf hK => Or.inr (xb_11_forget  s v s2 hf hK)
set_option maxRecDepth 100000 in
theorem xt_11_isKnown (B : mm_C) (d : Nat) : xk_11_isKnown (mm_ct B mm_Mk mm_Fk mm_PC (d + 1)) := fun pt ps pg pr s a0 a1 v s2 Q hf hK => Or.inr (xb_11_isKnown  s a0 a1 v s2 hf hK)
set_option maxRecDepth 100000 in
theorem xt_7_fill_53178_125 (B : mm_C) (d : Nat) : xk_7_fill_53178_125 (mm_ct B mm_Mk mm_Fk mm_PC (d + 1)) := fun pt ps pg pr s a1 s2 Q hf hK => Or.inr (xb_7_fill_53178_125  s a1 s2 hf hK)
set_option maxRecDepth 100000 in
theorem xt_9_isWithinLength (B : mm_C) (d : Nat) : xk_9_isWithinLength (mm_ct B mm_Mk mm_Fk mm_PC (d + 1)) := fun pt ps pg pr s v s2 Q hf hK => Or.inr (xb_9_isWithinLength  s v s2 hf hK)
set_option maxRecDepth 100000 in
theorem xt_9_agrees (B : mm_C) (d : Nat) : xk_9_agrees (mm_ct B mm_Mk mm_Fk mm_PC (d + 1)) := fun pt ps pg pr s a0 a1 v s2 Q hf hK => Or.inr (xb_9_agrees  s a0 a1 v s2 hf hK)
set_option maxRecDepth 100000 in
theorem xt_9_takeIn (B : mm_C) (d : Nat) : xk_9_takeIn (mm_ct B mm_Mk mm_Fk mm_PC (d + 1)) := fun pt ps pg pr s a0 s2 Q hf hK => Or.inr (xb_9_takeIn  s a0 s2 hf hK)
set_option maxRecDepth 100000 in
theorem xt_9_goOn (B : mm_C) : ∀ (n D : Nat), 4 + 1 * n ≤ D → xk_9_goOn n (mm_ct B mm_Mk mm_Fk mm_PC D)
  | 0, D, _ => fun pt ps pr s a0 a1 a2 s2 Q hf _ => by simp [xf_9_goOn] at hf
  | n + 1, D0, hD0 => by
    obtain ⟨D, rfl⟩ : ∃ D, D0 = D + 1 := ⟨D0 - 1, by omega⟩
    have hD : 4 ≤ D := by omega
    have hrec : xr_9_goOn (xf_9_goOn n) (mm_ct B mm_Mk mm_Fk mm_PC D) := xt_9_goOn B n D (by omega)
    exact fun pt ps pr s a0 a1 a2 s2 Q hf hK => Or.inr (xb_9_goOn (rec := xf_9_goOn n) hrec (xle (k := xk_1_open) (xt_1_open B) (by omega)) (xle (k := xk_1_after) (xt_1_after B) (by omega)) (xle (k := xk_11_slopeOf) (xt_11_slopeOf B) (by omega)) (xle (k := xk_9_agrees) (xt_9_agrees B) (by omega)) (xle (k := xk_9_takeIn) (xt_9_takeIn B) (by omega)) s a0 a1 a2 s2 hf hK)
set_option maxRecDepth 100000 in
theorem xt_9_search (B : mm_C) (d : Nat) : xk_9_search (mm_ct B mm_Mk mm_Fk mm_PC (d + 12)) := fun pt ps pr s a0 a1 a2 a3 s2 Q hf hK => Or.inr (xb_9_search (xt_7_fill_53178_125 B (d + 10)) (xt_9_isWithinLength B (d + 10)) (xt_9_goOn B 7 _ (by omega)) s a0 a1 a2 a3 s2 hf hK)
set_option maxRecDepth 100000 in
theorem xt_11_rows (B : mm_C) (d : Nat) : xk_11_rows (mm_ct B mm_Mk mm_Fk mm_PC (d + 13)) := fun pt ps pr s a0 a1 a2 v s2 Q hf hK => Or.inr (xb_11_rows (xt_11_isKnown B (d + 11)) (xt_9_search B (d + 0)) s a0 a1 a2 v s2 hf hK)
set_option maxRecDepth 100000 in
theorem xt_9_sharpest (B : mm_C) (d : Nat) : xk_9_sharpest (mm_ct B mm_Mk mm_Fk mm_PC (d + 1)) := fun pt ps pg pr s a0 v s2 Q hf hK => Or.inr (xb_9_sharpest  s a0 v s2 hf hK)
set_option maxRecDepth 100000 in
theorem xt_11_listen (B : mm_C) (d : Nat) : xk_11_listen (mm_ct B mm_Mk mm_Fk mm_PC (d + 13)) := fun pt ps pr s a0 a1 a2 v s2 Q hf hK => Or.inr (xb_11_listen (xt_11_isKnown B (d + 11)) (xt_9_search B (d + 0)) (xt_9_sharpest B (d + 11)) s a0 a1 a2 v s2 hf hK)
set_option maxRecDepth 100000 in
theorem xt_2_copyFrom_110_25 (B : mm_C) (d : Nat) : xk_2_copyFrom_110_25 (mm_ct B mm_Mk mm_Fk mm_PC (d + 1)) := fun pt ps pg pr s s2 Q hf hK => Or.inr (xb_2_copyFrom_110_25  s s2 hf hK)
set_option maxRecDepth 100000 in
theorem xt_2_copyFrom_112_25 (B : mm_C) (d : Nat) : xk_2_copyFrom_112_25 (mm_ct B mm_Mk mm_Fk mm_PC (d + 1)) := fun pt ps pg pr s s2 Q hf hK => Or.inr (xb_2_copyFrom_112_25  s s2 hf hK)
set_option maxRecDepth 100000 in
theorem xt_2_copyFrom_114_25 (B : mm_C) (d : Nat) : xk_2_copyFrom_114_25 (mm_ct B mm_Mk mm_Fk mm_PC (d + 1)) := fun pt ps pg pr s s2 Q hf hK => Or.inr (xb_2_copyFrom_114_25  s s2 hf hK)
set_option maxRecDepth 100000 in
theorem xt_11_hold (B : mm_C) (d : Nat) : xk_11_hold (mm_ct B mm_Mk mm_Fk mm_PC (d + 2)) := fun pt ps pg pr s a0 v s2 Q hf hK => Or.inr (xb_11_hold (xt_2_copyFrom_110_25 B (d + 0)) (xt_2_copyFrom_112_25 B (d + 0)) (xt_2_copyFrom_114_25 B (d + 0)) s a0 v s2 hf hK)
set_option maxRecDepth 100000 in
theorem xt_2_copyFrom_25_110 (B : mm_C) (d : Nat) : xk_2_copyFrom_25_110 (mm_ct B mm_Mk mm_Fk mm_PC (d + 1)) := fun pt ps pg pr s s2 Q hf hK => Or.inr (xb_2_copyFrom_25_110  s s2 hf hK)
set_option maxRecDepth 100000 in
theorem xt_2_copyFrom_25_112 (B : mm_C) (d : Nat) : xk_2_copyFrom_25_112 (mm_ct B mm_Mk mm_Fk mm_PC (d + 1)) := fun pt ps pg pr s s2 Q hf hK => Or.inr (xb_2_copyFrom_25_112  s s2 hf hK)
set_option maxRecDepth 100000 in
theorem xt_2_copyFrom_25_114 (B : mm_C) (d : Nat) : xk_2_copyFrom_25_114 (mm_ct B mm_Mk mm_Fk mm_PC (d + 1)) := fun pt ps pg pr s s2 Q hf hK => Or.inr (xb_2_copyFrom_25_114  s s2 hf hK)
set_option maxRecDepth 100000 in
theorem xt_11_restore (B : mm_C) (d : Nat) : xk_11_restore (mm_ct B mm_Mk mm_Fk mm_PC (d + 3)) := fun ps pr s a0 v s2 Q hf hK => Or.inr (xb_11_restore (xt_2_copyFrom_25_110 B (d + 1)) (xt_1_lay_9 B (d + 0)) (xt_2_copyFrom_25_112 B (d + 1)) (xt_2_copyFrom_25_114 B (d + 1)) s a0 v s2 hf hK)
set_option maxRecDepth 100000 in
theorem xt_11_orNotThere (B : mm_C) (d : Nat) : xk_11_orNotThere (mm_ct B mm_Mk mm_Fk mm_PC (d + 1)) := fun h a0 v Q hf hK => Or.inr (xb_11_orNotThere  a0 v hf hK)
set_option maxRecDepth 100000 in
theorem xt_11_heldSlots (B : mm_C) (d : Nat) : xk_11_heldSlots (mm_ct B mm_Mk mm_Fk mm_PC (d + 1)) := fun pt ps pg pr s v s2 Q hf hK => Or.inr (xb_11_heldSlots  s v s2 hf hK)
set_option maxRecDepth 100000 in
theorem xt_11_count (B : mm_C) (d : Nat) : xk_11_count (mm_ct B mm_Mk mm_Fk mm_PC (d + 6)) := fun ps pr s a0 v s2 Q hf hK => Or.inr (xb_11_count (xt_11_slopeOf B (d + 4)) (xt_11_turnOf B (d + 4)) (xt_11_lastOf B (d + 4)) (xt_11_orNotThere B (d + 4)) (xt_11_heldSlots B (d + 4)) (xt_11_sayable B (d + 0)) s a0 v s2 hf hK)
set_option maxRecDepth 100000 in
theorem xt_2_begin_25_9 (B : mm_C) (d : Nat) : xk_2_begin_25_9 (mm_ct B mm_Mk mm_Fk mm_PC (d + 3)) := fun pt ps pg pr s s2 Q hf hK => Or.inr (xb_2_begin_25_9 (xt_7_evenStanding_9 B (d + 0)) (xt_7_fill_53178_26 B (d + 1)) s s2 hf hK)
set_option maxRecDepth 100000 in
theorem xt_1_lay_9_p2n (B : mm_C) (d : Nat) : xk_1_lay_9_p2n (mm_ct B mm_Mk mm_Fk mm_PC (d + 2)) := fun pt ps pr s a1 a2 s2 Q hf hK => Or.inr (xb_1_lay_9_p2n (xt_7_fill_53178_118 B (d + 0)) s a1 a2 s2 hf hK)
set_option maxRecDepth 100000 in
theorem xt_11_beginAnew (B : mm_C) (d : Nat) : xk_11_beginAnew (mm_ct B mm_Mk mm_Fk mm_PC (d + 4)) := fun ps pr s s2 Q hf hK => Or.inr (xb_11_beginAnew (xt_2_begin_25_9 B (d + 0)) (xt_7_fill_53178_138 B (d + 2)) (xt_1_lift B (d + 2)) (xt_1_lay_9_p2n B (d + 1)) s s2 hf hK)
