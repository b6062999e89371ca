/-! ===== the reference's tables: where its rows lie, how long they are ===== -/
theorem dT.r0 {L : Nat} {h : mm_H} (T : dT L h) : mm_r h 490 0 = some 491 := T.f (by decide +kernel)
theorem dT.r3 {L : Nat} {h : mm_H} (T : dT L h) : mm_r h 490 3 = some 492 := T.f (by decide +kernel)
theorem dT.r4 {L : Nat} {h : mm_H} (T : dT L h) : mm_r h 490 4 = some 493 := T.f (by decide +kernel)
theorem dT.r5 {L : Nat} {h : mm_H} (T : dT L h) : mm_r h 490 5 = some 494 := T.f (by decide +kernel)
theorem dT.r6 {L : Nat} {h : mm_H} (T : dT L h) : mm_r h 490 6 = some 495 := T.f (by decide +kernel)
theorem dT.r7 {L : Nat} {h : mm_H} (T : dT L h) : mm_r h 490 7 = some 496 := T.f (by decide +kernel)
theorem dT.r8 {L : Nat} {h : mm_H} (T : dT L h) : mm_r h 490 8 = some 497 := T.f (by decide +kernel)
theorem dT.r9 {L : Nat} {h : mm_H} (T : dT L h) : mm_r h 490 9 = some 498 := T.f (by decide +kernel)
theorem dT.r10 {L : Nat} {h : mm_H} (T : dT L h) : mm_r h 490 10 = some 499 := T.f (by decide +kernel)
theorem dT.r11 {L : Nat} {h : mm_H} (T : dT L h) : mm_r h 490 11 = some 500 := T.f (by decide +kernel)
theorem dT.r12 {L : Nat} {h : mm_H} (T : dT L h) : mm_r h 490 12 = some 501 := T.f (by decide +kernel)
theorem dT.r13 {L : Nat} {h : mm_H} (T : dT L h) : mm_r h 490 13 = some 502 := T.f (by decide +kernel)
theorem dT.r14 {L : Nat} {h : mm_H} (T : dT L h) : mm_r h 490 14 = some 503 := T.f (by decide +kernel)
theorem dT.r15 {L : Nat} {h : mm_H} (T : dT L h) : mm_r h 490 15 = some 504 := T.f (by decide +kernel)
theorem dT.r16 {L : Nat} {h : mm_H} (T : dT L h) : mm_r h 490 16 = some 505 := T.f (by decide +kernel)
theorem dT.r17 {L : Nat} {h : mm_H} (T : dT L h) : mm_r h 490 17 = some 506 := T.f (by decide +kernel)
theorem dT.r18 {L : Nat} {h : mm_H} (T : dT L h) : mm_r h 490 18 = some 507 := T.f (by decide +kernel)
theorem dT.r19 {L : Nat} {h : mm_H} (T : dT L h) : mm_r h 490 19 = some 508 := T.f (by decide +kernel)
theorem dT.r20 {L : Nat} {h : mm_H} (T : dT L h) : mm_r h 490 20 = some 509 := T.f (by decide +kernel)
theorem dT.r21 {L : Nat} {h : mm_H} (T : dT L h) : mm_r h 490 21 = some 510 := T.f (by decide +kernel)
theorem dT.r22 {L : Nat} {h : mm_H} (T : dT L h) : mm_r h 490 22 = some 511 := T.f (by decide +kernel)
theorem dT.r23 {L : Nat} {h : mm_H} (T : dT L h) : mm_r h 490 23 = some 512 := T.f (by decide +kernel)
theorem dT.r24 {L : Nat} {h : mm_H} (T : dT L h) : mm_r h 490 24 = some 513 := T.f (by decide +kernel)
theorem dT.r25 {L : Nat} {h : mm_H} (T : dT L h) : mm_r h 490 25 = some 514 := T.f (by decide +kernel)
theorem dT.r26 {L : Nat} {h : mm_H} (T : dT L h) : mm_r h 490 26 = some 515 := T.f (by decide +kernel)
theorem dT.r27 {L : Nat} {h : mm_H} (T : dT L h) : mm_r h 490 27 = some 516 := T.f (by decide +kernel)
theorem dT.r28 {L : Nat} {h : mm_H} (T : dT L h) : mm_r h 490 28 = some 517 := T.f (by decide +kernel)
theorem dT.r29 {L : Nat} {h : mm_H} (T : dT L h) : mm_r h 490 29 = some 518 := T.f (by decide +kernel)
theorem dT.r30 {L : Nat} {h : mm_H} (T : dT L h) : mm_r h 490 30 = some 519 := T.f (by decide +kernel)
theorem dT.r31 {L : Nat} {h : mm_H} (T : dT L h) : mm_r h 490 31 = some 520 := T.f (by decide +kernel)
theorem dT.r32 {L : Nat} {h : mm_H} (T : dT L h) : mm_r h 490 32 = some 521 := T.f (by decide +kernel)
theorem dT.r33 {L : Nat} {h : mm_H} (T : dT L h) : mm_r h 490 33 = some 522 := T.f (by decide +kernel)
theorem dT.r34 {L : Nat} {h : mm_H} (T : dT L h) : mm_r h 490 34 = some 523 := T.f (by decide +kernel)
theorem dT.r35 {L : Nat} {h : mm_H} (T : dT L h) : mm_r h 490 35 = some 524 := T.f (by decide +kernel)
theorem dT.r36 {L : Nat} {h : mm_H} (T : dT L h) : mm_r h 490 36 = some 525 := T.f (by decide +kernel)
theorem dT.r38 {L : Nat} {h : mm_H} (T : dT L h) : mm_r h 490 38 = some 526 := T.f (by decide +kernel)
theorem dT.r39 {L : Nat} {h : mm_H} (T : dT L h) : mm_r h 490 39 = some 527 := T.f (by decide +kernel)
theorem dT.r40 {L : Nat} {h : mm_H} (T : dT L h) : mm_r h 490 40 = some 528 := T.f (by decide +kernel)
theorem dT.r41 {L : Nat} {h : mm_H} (T : dT L h) : mm_r h 490 41 = some 529 := T.f (by decide +kernel)
theorem dT.r42 {L : Nat} {h : mm_H} (T : dT L h) : mm_r h 490 42 = some 530 := T.f (by decide +kernel)
theorem dT.r43 {L : Nat} {h : mm_H} (T : dT L h) : mm_r h 490 43 = some 531 := T.f (by decide +kernel)
theorem dT.r44 {L : Nat} {h : mm_H} (T : dT L h) : mm_r h 490 44 = some 532 := T.f (by decide +kernel)
theorem dT.r45 {L : Nat} {h : mm_H} (T : dT L h) : mm_r h 490 45 = some 533 := T.f (by decide +kernel)
theorem dT.r46 {L : Nat} {h : mm_H} (T : dT L h) : mm_r h 490 46 = some 534 := T.f (by decide +kernel)
theorem dT.r47 {L : Nat} {h : mm_H} (T : dT L h) : mm_r h 490 47 = some 535 := T.f (by decide +kernel)
theorem dT.r48 {L : Nat} {h : mm_H} (T : dT L h) : mm_r h 490 48 = some 536 := T.f (by decide +kernel)
theorem dT.r49 {L : Nat} {h : mm_H} (T : dT L h) : mm_r h 490 49 = some 537 := T.f (by decide +kernel)
theorem dT.r50 {L : Nat} {h : mm_H} (T : dT L h) : mm_r h 490 50 = some 538 := T.f (by decide +kernel)
theorem dT.r51 {L : Nat} {h : mm_H} (T : dT L h) : mm_r h 490 51 = some 539 := T.f (by decide +kernel)
theorem dT.r52 {L : Nat} {h : mm_H} (T : dT L h) : mm_r h 490 52 = some 540 := T.f (by decide +kernel)
theorem dT.r53 {L : Nat} {h : mm_H} (T : dT L h) : mm_r h 490 53 = some 541 := T.f (by decide +kernel)
theorem dT.r54 {L : Nat} {h : mm_H} (T : dT L h) : mm_r h 490 54 = some 542 := T.f (by decide +kernel)
theorem dT.r55 {L : Nat} {h : mm_H} (T : dT L h) : mm_r h 490 55 = some 543 := T.f (by decide +kernel)
theorem dT.r56 {L : Nat} {h : mm_H} (T : dT L h) : mm_r h 490 56 = some 544 := T.f (by decide +kernel)
theorem dT.r57 {L : Nat} {h : mm_H} (T : dT L h) : mm_r h 490 57 = some 545 := T.f (by decide +kernel)
theorem dT.r59 {L : Nat} {h : mm_H} (T : dT L h) : mm_r h 490 59 = some 546 := T.f (by decide +kernel)
theorem dT.r60 {L : Nat} {h : mm_H} (T : dT L h) : mm_r h 490 60 = some 547 := T.f (by decide +kernel)
theorem dT.r65 {L : Nat} {h : mm_H} (T : dT L h) : mm_r h 490 65 = some 548 := T.f (by decide +kernel)
theorem dT.l491 {L : Nat} {h : mm_H} (T : dT L h) : mm_ln h 491 = 620 := T.ln (by decide) (by decide +kernel)
theorem dT.l492 {L : Nat} {h : mm_H} (T : dT L h) : mm_ln h 492 = 4 := T.ln (by decide) (by decide +kernel)
theorem dT.l493 {L : Nat} {h : mm_H} (T : dT L h) : mm_ln h 493 = 4 := T.ln (by decide) (by decide +kernel)
theorem dT.l494 {L : Nat} {h : mm_H} (T : dT L h) : mm_ln h 494 = 256 := T.ln (by decide) (by decide +kernel)
theorem dT.l495 {L : Nat} {h : mm_H} (T : dT L h) : mm_ln h 495 = 4 := T.ln (by decide) (by decide +kernel)
theorem dT.l496 {L : Nat} {h : mm_H} (T : dT L h) : mm_ln h 496 = 64 := T.ln (by decide) (by decide +kernel)
theorem dT.l497 {L : Nat} {h : mm_H} (T : dT L h) : mm_ln h 497 = 4 := T.ln (by decide) (by decide +kernel)
theorem dT.l498 {L : Nat} {h : mm_H} (T : dT L h) : mm_ln h 498 = 128 := T.ln (by decide) (by decide +kernel)
theorem dT.l499 {L : Nat} {h : mm_H} (T : dT L h) : mm_ln h 499 = 4 := T.ln (by decide) (by decide +kernel)
theorem dT.l500 {L : Nat} {h : mm_H} (T : dT L h) : mm_ln h 500 = 4 := T.ln (by decide) (by decide +kernel)
theorem dT.l501 {L : Nat} {h : mm_H} (T : dT L h) : mm_ln h 501 = 4 := T.ln (by decide) (by decide +kernel)
theorem dT.l502 {L : Nat} {h : mm_H} (T : dT L h) : mm_ln h 502 = 4 := T.ln (by decide) (by decide +kernel)
theorem dT.l503 {L : Nat} {h : mm_H} (T : dT L h) : mm_ln h 503 = 4 := T.ln (by decide) (by decide +kernel)
theorem dT.l504 {L : Nat} {h : mm_H} (T : dT L h) : mm_ln h 504 = 84480 := T.ln (by decide) (by decide +kernel)
theorem dT.l505 {L : Nat} {h : mm_H} (T : dT L h) : mm_ln h 505 = 132 := T.ln (by decide) (by decide +kernel)
theorem dT.l506 {L : Nat} {h : mm_H} (T : dT L h) : mm_ln h 506 = 4 := T.ln (by decide) (by decide +kernel)
theorem dT.l507 {L : Nat} {h : mm_H} (T : dT L h) : mm_ln h 507 = 8000 := T.ln (by decide) (by decide +kernel)
theorem dT.l508 {L : Nat} {h : mm_H} (T : dT L h) : mm_ln h 508 = 4 := T.ln (by decide) (by decide +kernel)
theorem dT.l509 {L : Nat} {h : mm_H} (T : dT L h) : mm_ln h 509 = 1600 := T.ln (by decide) (by decide +kernel)
theorem dT.l510 {L : Nat} {h : mm_H} (T : dT L h) : mm_ln h 510 = 4 := T.ln (by decide) (by decide +kernel)
theorem dT.l511 {L : Nat} {h : mm_H} (T : dT L h) : mm_ln h 511 = 128 := T.ln (by decide) (by decide +kernel)
theorem dT.l512 {L : Nat} {h : mm_H} (T : dT L h) : mm_ln h 512 = 128 := T.ln (by decide) (by decide +kernel)
theorem dT.l513 {L : Nat} {h : mm_H} (T : dT L h) : mm_ln h 513 = 128 := T.ln (by decide) (by decide +kernel)
theorem dT.l514 {L : Nat} {h : mm_H} (T : dT L h) : mm_ln h 514 = 128 := T.ln (by decide) (by decide +kernel)
theorem dT.l515 {L : Nat} {h : mm_H} (T : dT L h) : mm_ln h 515 = 4 := T.ln (by decide) (by decide +kernel)
theorem dT.l516 {L : Nat} {h : mm_H} (T : dT L h) : mm_ln h 516 = 4 := T.ln (by decide) (by decide +kernel)
theorem dT.l517 {L : Nat} {h : mm_H} (T : dT L h) : mm_ln h 517 = 4 := T.ln (by decide) (by decide +kernel)
theorem dT.l518 {L : Nat} {h : mm_H} (T : dT L h) : mm_ln h 518 = 4 := T.ln (by decide) (by decide +kernel)
theorem dT.l519 {L : Nat} {h : mm_H} (T : dT L h) : mm_ln h 519 = 64 := T.ln (by decide) (by decide +kernel)
theorem dT.l520 {L : Nat} {h : mm_H} (T : dT L h) : mm_ln h 520 = 64 := T.ln (by decide) (by decide +kernel)
theorem dT.l521 {L : Nat} {h : mm_H} (T : dT L h) : mm_ln h 521 = 8 := T.ln (by decide) (by decide +kernel)
theorem dT.l522 {L : Nat} {h : mm_H} (T : dT L h) : mm_ln h 522 = 64 := T.ln (by decide) (by decide +kernel)
theorem dT.l523 {L : Nat} {h : mm_H} (T : dT L h) : mm_ln h 523 = 1200 := T.ln (by decide) (by decide +kernel)
theorem dT.l524 {L : Nat} {h : mm_H} (T : dT L h) : mm_ln h 524 = 96 := T.ln (by decide) (by decide +kernel)
theorem dT.l525 {L : Nat} {h : mm_H} (T : dT L h) : mm_ln h 525 = 100 := T.ln (by decide) (by decide +kernel)
theorem dT.l526 {L : Nat} {h : mm_H} (T : dT L h) : mm_ln h 526 = 32 := T.ln (by decide) (by decide +kernel)
theorem dT.l527 {L : Nat} {h : mm_H} (T : dT L h) : mm_ln h 527 = 32 := T.ln (by decide) (by decide +kernel)
theorem dT.l528 {L : Nat} {h : mm_H} (T : dT L h) : mm_ln h 528 = 32 := T.ln (by decide) (by decide +kernel)
theorem dT.l529 {L : Nat} {h : mm_H} (T : dT L h) : mm_ln h 529 = 32 := T.ln (by decide) (by decide +kernel)
theorem dT.l530 {L : Nat} {h : mm_H} (T : dT L h) : mm_ln h 530 = 32 := T.ln (by decide) (by decide +kernel)
theorem dT.l531 {L : Nat} {h : mm_H} (T : dT L h) : mm_ln h 531 = 32 := T.ln (by decide) (by decide +kernel)
theorem dT.l532 {L : Nat} {h : mm_H} (T : dT L h) : mm_ln h 532 = 32 := T.ln (by decide) (by decide +kernel)
theorem dT.l533 {L : Nat} {h : mm_H} (T : dT L h) : mm_ln h 533 = 32 := T.ln (by decide) (by decide +kernel)
theorem dT.l534 {L : Nat} {h : mm_H} (T : dT L h) : mm_ln h 534 = 16 := T.ln (by decide) (by decide +kernel)
theorem dT.l535 {L : Nat} {h : mm_H} (T : dT L h) : mm_ln h 535 = 16 := T.ln (by decide) (by decide +kernel)
theorem dT.l536 {L : Nat} {h : mm_H} (T : dT L h) : mm_ln h 536 = 64 := T.ln (by decide) (by decide +kernel)
theorem dT.l537 {L : Nat} {h : mm_H} (T : dT L h) : mm_ln h 537 = 32 := T.ln (by decide) (by decide +kernel)
theorem dT.l538 {L : Nat} {h : mm_H} (T : dT L h) : mm_ln h 538 = 12 := T.ln (by decide) (by decide +kernel)
theorem dT.l539 {L : Nat} {h : mm_H} (T : dT L h) : mm_ln h 539 = 5 := T.ln (by decide) (by decide +kernel)
theorem dT.l540 {L : Nat} {h : mm_H} (T : dT L h) : mm_ln h 540 = 5 := T.ln (by decide) (by decide +kernel)
theorem dT.l541 {L : Nat} {h : mm_H} (T : dT L h) : mm_ln h 541 = 5 := T.ln (by decide) (by decide +kernel)
theorem dT.l542 {L : Nat} {h : mm_H} (T : dT L h) : mm_ln h 542 = 17 := T.ln (by decide) (by decide +kernel)
theorem dT.l543 {L : Nat} {h : mm_H} (T : dT L h) : mm_ln h 543 = 16 := T.ln (by decide) (by decide +kernel)
theorem dT.l544 {L : Nat} {h : mm_H} (T : dT L h) : mm_ln h 544 = 16 := T.ln (by decide) (by decide +kernel)
theorem dT.l545 {L : Nat} {h : mm_H} (T : dT L h) : mm_ln h 545 = 500 := T.ln (by decide) (by decide +kernel)
theorem dT.l546 {L : Nat} {h : mm_H} (T : dT L h) : mm_ln h 546 = 32 := T.ln (by decide) (by decide +kernel)
theorem dT.l547 {L : Nat} {h : mm_H} (T : dT L h) : mm_ln h 547 = 640 := T.ln (by decide) (by decide +kernel)
theorem dT.l548 {L : Nat} {h : mm_H} (T : dT L h) : mm_ln h 548 = 32 := T.ln (by decide) (by decide +kernel)
abbrev zo (b j a k : Nat) : Prop := a = b ∧ k = j
abbrev zg (b p n a k : Nat) : Prop := a = b ∧ p ≤ k ∧ k < p + n
abbrev zs (b p n a k : Nat) : Prop := (520 ≤ a ∧ a ≤ 522) ∨ (a = b ∧ p ≤ k ∧ k < p + n)
abbrev zz (b p n a k : Nat) : Prop := (520 ≤ a ∧ a ≤ 526) ∨ (a = 490 ∧ k = 37) ∨ (a = b ∧ p ≤ k ∧ k < p + n)
theorem dF.c {S1 S2 : Nat → Nat → Prop} {h h1 h2 : mm_H} (F : dF S1 h h1) (G : dF S2 h1 h2) : dF (fun a k => S1 a k ∨ S2 a k) h h2 := F.tr G (fun _ _ z => Or.inl z) (fun _ _ z => Or.inr z)
/-- what stands fast in the reference -/
def rB (L : Nat) (h : mm_H) : Prop := dT L h ∧ h.2.1 519 = sh_K ∧ ∀ k, h.2.1 527 k = 0
theorem rB.F {L : Nat} {S : Nat → Nat → Prop} {h h' : mm_H} (B : rB L h) (F : dF S h h') (n : ∀ a k, a = 519 ∨ a = 527 → ¬ S a k) : rB L h' :=
  ⟨B.1.F F, by funext k; rw [F.2.2 519 k (n 519 k (Or.inl rfl)), B.2.1], fun k => by rw [F.2.2 527 k (n 527 k (Or.inr rfl))]; exact B.2.2 k⟩
def lby (l : List Int32) : Prop := ∀ x ∈ l, x &&& 255 = x
theorem lby.app {l m : List Int32} (a : lby l) (b : lby m) : lby (l ++ m) := fun x hx => by
  rcases List.mem_append.mp hx with z | z
  · exact a x z
  · exact b x z
theorem lby.nil : lby [] := fun x hx => absurd hx (List.not_mem_nil)
theorem lby.one {x : Int32} (e : x &&& 255 = x) : lby [x] := fun y hy => by rw [List.mem_singleton.mp hy]; exact e
theorem lby.take {l : List Int32} {n : Nat} (a : lby l) : lby (l.take n) := fun x hx => a x (List.mem_of_mem_take hx)
theorem lby.drop {l : List Int32} {n : Nat} (a : lby l) : lby (l.drop n) := fun x hx => a x (List.mem_of_mem_drop hx)
theorem num_by (v : Int32) : ∀ n, lby (rr_num v n) := by
  intro n
  induction n with
  | zero => exact lby.nil
  | succ n ih =>
    intro x hx
    rw [rr_num] at hx
    rcases List.mem_cons.mp hx with z | z
    · rw [z]; exact and255 _
    · exact ih x z
theorem ou_by (S : Nat → Int32) : ∀ n i, lby (sh_ou S n i) := by
  intro n
  induction n with
  | zero => intro i; exact lby.nil
  | succ n ih => intro i; rw [sh_ou]; exact (num_by _ _).app (ih _)
theorem sha_by (l : List Int32) : lby (sh_a l) := ou_by _ _ _
theorem hmk_by (l : List Int32) (m : Int32) : ∀ n i, lby (hm_k l m n i) := by
  intro n
  induction n with
  | zero => intro i; exact lby.nil
  | succ n ih =>
    intro i x hx
    rw [hm_k] at hx
    rcases List.mem_cons.mp hx with z | z
    · rw [z]; exact and255 _
    · exact ih _ x z
theorem hmm_by (k x : List Int32) : lby (hm_m k x) := sha_by _
theorem hke_by (a b c : List Int32) (n : Nat) : lby (hk_e a b c n) := (hmm_by _ _).take
theorem hmk_at (l : List Int32) (m : Int32) : ∀ n i k, k < n → (hm_k l m n i).getD k 0 = (l.getD (i + k) 0 ^^^ m) &&& 255 := by
  intro n
  induction n with
  | zero => intro i k hk; omega
  | succ n ih =>
    intro i k hk
    rw [hm_k]
    cases k with
    | zero => rfl
    | succ k => rw [List.getD_cons_succ, ih (i + 1) k (by omega), show i + 1 + k = i + (k + 1) by omega]
theorem b8_xor (x y : Int32) : mm_b8 (mm_b8 x ^^^ y) = mm_b8 (x ^^^ y) := by
  rw [b8_eq]
  refine b_ext (fun i hi => ?_)
  rw [b_and, b_and, b_xor, b_xor, b_255, b_b8 _ hi]
  by_cases c : i < 8
  · rw [if_pos c]
  · rw [decide_eq_false c, Bool.and_false, Bool.and_false]
section RTB
variable {L : Nat} {h : mm_H} {f : mm_H → mm_O} {g : Int32 → mm_H → mm_O} {Q : Option Value → mm_H → Prop}
theorem dq_in {b k n : Nat} {x : Int32} (hl : mm_ln h b = n) (ex : x = nI k) (hk : k < n) (hn : n ≤ 100000) : mm_in x (mm_ln h b) = true := by rw [hl, ex]; exact rr_in hk (by omega)
theorem dq_st {b k n : Nat} {x v : Int32} (h32 : 32 ≤ b) (hl : mm_ln h b = n) (ex : x = nI k) (hk : k < n) (hn : n ≤ 100000) (K : ∀ h', dF (zo b k) h h' → h'.2.1 b k = v → tr (f h') Q) : tr (if 32 ≤ b ∧ mm_in x (mm_ln h b) = true then mm_bh (mm_si h b (mm_n x) v) f else none) Q := by
  rw [if_pos ⟨h32, dq_in hl ex hk hn⟩, ex, rr_n (by omega), mm_bh]
  exact K _ dF.si mi_eq
/-- a field of the reference's object -/
theorem dq_fd {k : Nat} {v : Int32} (K : ∀ h', dF (zo 490 k) h h' → h'.2.1 490 k = v → tr (f h') Q) : tr (mm_bh (mm_si h 490 k v) f) Q := by
  rw [mm_bh]; exact K _ dF.si mi_eq
theorem dr_sumz {a1 a4 fr p : Nat} {x y z : Int32} {l : List Int32} (B : rB L h) (bl : bs h a1 fr l) (hb : lby l) (ha : a1 < 520 ∨ 522 < a1) (h4 : a4 < 520 ∨ 522 < a4) (h32 : 32 ≤ a4) (hl : l.length ≤ 2000) (na nb : Nat) (e1 : mm_ln h a1 = na) (la : fr + l.length ≤ na) (la2 : na ≤ 90000) (e4 : mm_ln h a4 = nb) (lb : p + 32 ≤ nb) (lb2 : nb ≤ 90000) (ex : x = nI fr) (ey : y = nI l.length) (ez : z = nI p) (K : ∀ h', bs h' a4 p (sh_a l) → dF (zs a4 p 32) h h' → tr (f h') Q) : tr (mm_qv (bd_X12_sum 490 a1 x y a4 z h) f) Q := by
  subst e1; subst e4
  exact dr_sum B.1 B.2.1 bl hb ha h4 h32 hl la la2 lb lb2 ex ey ez (fun h' b F => K h' b (F.mo (fun a k z => by unfold zS at z; omega)))
theorem dr_mv {a b i j : Nat} {x y z : Int32} {l : List Int32} (bl : bs h a i l) (hab : a ≠ b ∨ i + l.length ≤ j ∨ j + l.length ≤ i) (h32 : 32 ≤ b) (na nb : Nat) (e1 : mm_ln h a = na) (e2 : mm_ln h b = nb) (la : i + l.length ≤ na) (lb : j + l.length ≤ nb) (la2 : na ≤ 90000) (lb2 : nb ≤ 90000) (ex : x = nI i) (ey : y = nI j) (ez : z = nI l.length) (hl : l.length ≤ 2000) (K : ∀ h', bs h' b j l → dF (zg b j l.length) h h' → tr (f h') Q) : tr (mm_qv (bd_X12_move a x b y z h) f) Q := by
  subst e1; subst e2
  exact dr_move bl hab h32 la lb (by omega) (by omega) ex ey ez hl K
end RTB
