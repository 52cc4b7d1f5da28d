
/-! the law's loop -/
theorem uI_63 (x : Int32) : ∃ k, k < 64 ∧ x &&& 63 = nI k := by
  have h1 : (x &&& 63).toInt = x.toInt % 2 ^ 6 := Kit.i32_mask x 63 (by decide) (by decide)
  have h2 : 0 ≤ x.toInt % 2 ^ 6 := Int.emod_nonneg _ (by decide)
  have h3 : x.toInt % 2 ^ 6 < 2 ^ 6 := Int.emod_lt_of_pos _ (by decide)
  refine ⟨(x.toInt % 2 ^ 6).toNat, by omega, ?_⟩
  apply Int32.toInt_inj.mp
  rw [h1, nI_toInt (by omega)]
  omega
theorem uI_lim {i n : Nat} (hi : i < 5000) (hn : n ≤ 2048) : nI i ≤ nI n - 4 → i + 3 < n := by
  intro h
  have h1 : (nI n - nI 4).toInt = (n : Int) - 4 := pk_sub_toInt (by omega) (by omega)
  have h2 : (nI i).toInt ≤ (nI n - nI 4).toInt := Int32.le_iff_toInt_le.mp h
  rw [h1, nI_toInt (by omega)] at h2
  omega
/-- what is owed of the invariant: a call keeps it, and the two sides agree -/
def uSt_matter (l : Launch) (Inv : Nat → q_St → Prop) : Prop := ∀ c S, c < 512 → Inv c S → ∃ (o1 : Int32 ⊕ String) (S1 : q_St) (v : Int32) (S2 : q_St), q_Fw l yL_matter kL_matter [.ref 0, .ref 120] S (uW [xEUn] (o1, S1)) ∧ q_Fi l yX7_matter kX7_matter 4 [.ref 112] S1 v S2 ∧ uW_ok [xEUn] o1 v (S2 112 6) ∧ Inv (c + 1) S2
def uSt_set (l : Launch) (Inv : Nat → q_St → Prop) : Prop := ∀ c S (x : Int32) (y : Int32) (w : Int32), c < 512 → Inv c S → ∃ (o1 : Int32 ⊕ String) (S1 : q_St) (v : Int32) (S2 : q_St), q_Fw l yL_set kL_set [.ref 0, .int x, .int y, .int w, .ref 120] S (uW [xENs, xEIa, xEUn] (o1, S1)) ∧ q_Fi l yX7_set kX7_set 5 [.ref 112, .int x, .int y, .int w] S1 v S2 ∧ uW_ok [xENs, xEIa, xEUn] o1 v (S2 112 6) ∧ Inv (c + 1) S2
def uSt_matterOf (l : Launch) (Inv : Nat → q_St → Prop) : Prop := ∀ c S (x : Int32) (y : Int32), c < 512 → Inv c S → ∃ (o1 : Int32 ⊕ String) (S1 : q_St) (v : Int32) (S2 : q_St), q_Fw l yL_matterOf kL_matterOf [.ref 0, .int x, .int y, .ref 120] S (uW [xENs, xEIa] (o1, S1)) ∧ q_Fi l yX7_matterOf kX7_matterOf 4 [.ref 112, .int x, .int y] S1 v S2 ∧ uW_ok [xENs, xEIa] o1 v (S2 112 6) ∧ Inv (c + 1) S2
def uSt_answer (l : Launch) (Inv : Nat → q_St → Prop) : Prop := ∀ c S (x : Int32) (y : Int32), c < 512 → Inv c S → ∃ (o1 : Int32 ⊕ String) (S1 : q_St) (v : Int32) (S2 : q_St), q_Fw l yL_answer kL_answer [.ref 0, .int x, .int y, .ref 120] S (uW [xENs, xEIo] (o1, S1)) ∧ q_Fi l yX7_answer kX7_answer 3 [.ref 112, .int x, .int y] S1 v S2 ∧ uW_ok [xENs, xEIo] o1 v (S2 112 6) ∧ Inv (c + 1) S2
def uSt_amount (l : Launch) (Inv : Nat → q_St → Prop) : Prop := ∀ c S (x : Int32) (y : Int32), c < 512 → Inv c S → ∃ (o1 : Int32 ⊕ String) (S1 : q_St) (v : Int32) (S2 : q_St), q_Fw l yL_amount kL_amount [.ref 0, .int x, .int y, .ref 120] S (uW [xENs, xEIo] (o1, S1)) ∧ q_Fi l yX7_amount kX7_amount 3 [.ref 112, .int x, .int y] S1 v S2 ∧ uW_ok [xENs, xEIo] o1 v (S2 112 6) ∧ Inv (c + 1) S2
def uSt_ask (l : Launch) (Inv : Nat → q_St → Prop) : Prop := ∀ c S (x : Int32) (y : Int32), c < 512 → Inv c S → ∃ (o1 : Int32 ⊕ String) (S1 : q_St) (v : Int32) (S2 : q_St), q_Fw l yL_ask kL_ask [.ref 0, .int x, .int y, .ref 120] S (uW [xENs, xEIo, xEUn] (o1, S1)) ∧ q_Fi l yX7_ask kX7_ask 6 [.ref 112, .int x, .int y] S1 v S2 ∧ uW_ok [xENs, xEIo, xEUn] o1 v (S2 112 6) ∧ Inv (c + 1) S2
def uSt_decide (l : Launch) (Inv : Nat → q_St → Prop) : Prop := ∀ c S (x : Int32), c < 512 → Inv c S → ∃ (o1 : Int32 ⊕ String) (S1 : q_St) (v : Int32) (S2 : q_St), q_Fw l yL_decide kL_decide [.ref 0, .int x, .ref 120] S (uW [xENs, xEUn] (o1, S1)) ∧ q_Fi l yX7_decide kX7_decide 5 [.ref 112, .int x] S1 v S2 ∧ uW_ok [xENs, xEUn] o1 v (S2 112 6) ∧ Inv (c + 1) S2
def uSt_tell (l : Launch) (Inv : Nat → q_St → Prop) : Prop := ∀ c S (x : Int32) (y : Int32), c < 512 → Inv c S → ∃ (o1 : Int32 ⊕ String) (S1 : q_St) (v : Int32) (S2 : q_St), q_Fw l yL_tell kL_tell [.ref 0, .int x, .int y, .ref 120] S (uW [xENs, xEIo, xEUn] (o1, S1)) ∧ q_Fi l yX7_tell kX7_tell 5 [.ref 112, .int x, .int y] S1 v S2 ∧ uW_ok [xENs, xEIo, xEUn] o1 v (S2 112 6) ∧ Inv (c + 1) S2
def uSt_faint (l : Launch) (Inv : Nat → q_St → Prop) : Prop := ∀ c S, c < 512 → Inv c S → ∃ (o1 : Int32 ⊕ String) (S1 : q_St) (v : Int32) (S2 : q_St), q_Fw l yL_faint kL_faint [.ref 0, .ref 120] S (uW [xEUn] (o1, S1)) ∧ q_Fi l yX7_faint kX7_faint 4 [.ref 112] S1 v S2 ∧ uW_ok [xEUn] o1 v (S2 112 6) ∧ Inv (c + 1) S2
def uSt_wake (l : Launch) (Inv : Nat → q_St → Prop) : Prop := ∀ c S, c < 512 → Inv c S → ∃ (o1 : Int32 ⊕ String) (S1 : q_St) (v : Int32) (S2 : q_St), q_Fw l yL_wake kL_wake [.ref 0, .ref 120] S (uW [xEUn] (o1, S1)) ∧ q_Fi l yX7_wake kX7_wake 5 [.ref 112] S1 v S2 ∧ uW_ok [xEUn] o1 v (S2 112 6) ∧ Inv (c + 1) S2
def uSt_isAwake (l : Launch) (Inv : Nat → q_St → Prop) : Prop := ∀ c S, c < 512 → Inv c S → ∃ (S1 : q_St) (v : Int32) (S2 : q_St), q_Fi l yX6_isAwake kX6_isAwake 1 [.ref 0] S v S1 ∧ q_Fi l yX7_isAwake kX7_isAwake 1 [.ref 112] S1 v S2 ∧ Inv (c + 1) S2
def uSt_book (l : Launch) (Inv : Nat → q_St → Prop) : Prop := ∀ c S (x : Int32), c < 512 → Inv c S → ∃ (o1 : Int32 ⊕ String) (S1 : q_St) (v : Int32) (S2 : q_St), q_Fw l yL_book kL_book [.ref 0, .int x, .ref 120] S (uW [xENs] (o1, S1)) ∧ q_Fi l yX7_book kX7_book 2 [.ref 112, .int x] S1 v S2 ∧ uW_ok [xENs] o1 v (S2 112 6) ∧ Inv (c + 1) S2
def uSt_wouldSeal (l : Launch) (Inv : Nat → q_St → Prop) : Prop := ∀ c S (x : Int32), c < 512 → Inv c S → ∃ (o1 : Int32 ⊕ String) (S1 : q_St) (v : Int32) (S2 : q_St), q_Fw l yL_wouldSeal kL_wouldSeal [.ref 0, .int x, .ref 120] S (uW [xENs, xEIs] (o1, S1)) ∧ q_Fi l yX7_wouldSeal kX7_wouldSeal 5 [.ref 112, .int x] S1 v S2 ∧ uW_ok [xENs, xEIs] o1 v (S2 112 6) ∧ (v = 0 ∨ v = 1) ∧ Inv (c + 1) S2
def uSt_sleep (l : Launch) (Inv : Nat → q_St → Prop) : Prop := ∀ c S (x : Int32), c < 512 → Inv c S → ∃ (o1 : Int32 ⊕ String) (S1 : q_St) (v : Int32) (S2 : q_St), q_Fw l yL_sleep kL_sleep [.ref 0, .int x, .ref 120] S (uW [xEIo, xEUn] (o1, S1)) ∧ q_Fi l yX7_sleep kX7_sleep 4 [.ref 112, .int x] S1 v S2 ∧ uW_ok [xEIo, xEUn] o1 v (S2 112 6) ∧ Inv (c + 1) S2
def uSt_rouse (l : Launch) (Inv : Nat → q_St → Prop) : Prop := ∀ c S (x : Int32), c < 512 → Inv c S → ∃ (o1 : Int32 ⊕ String) (S1 : q_St) (v : Int32) (S2 : q_St), q_Fw l yL_rouse kL_rouse [.ref 0, .int x, .ref 120] S (uW [xEIo, xEUn] (o1, S1)) ∧ q_Fi l yX7_rouse kX7_rouse 4 [.ref 112, .int x] S1 v S2 ∧ uW_ok [xEIo, xEUn] o1 v (S2 112 6) ∧ Inv (c + 1) S2
def uSt_inquire (l : Launch) (Inv : Nat → q_St → Prop) : Prop := ∀ c S (x : Int32) (y : Int32) (w : Int32), c < 512 → Inv c S → ∃ (o1 : Int32 ⊕ String) (S1 : q_St) (v : Int32) (S2 : q_St), q_Fw l yL_inquire kL_inquire [.ref 0, .int x, .int y, .int w, .ref 120] S (uW [xENs, xEIo, xEUn] (o1, S1)) ∧ q_Fi l yX7_inquire kX7_inquire 5 [.ref 112, .int x, .int y, .int w] S1 v S2 ∧ uW_ok [xENs, xEIo, xEUn] o1 v (S2 112 6) ∧ Inv (c + 1) S2
def uSt_guildOf (l : Launch) (Inv : Nat → q_St → Prop) : Prop := ∀ c S (x : Int32) (y : Int32), c < 512 → Inv c S → ∃ (o1 : Int32 ⊕ String) (S1 : q_St) (v : Int32) (S2 : q_St), q_Fw l yL_guildOf kL_guildOf [.ref 0, .int x, .int y, .ref 120] S (uW [xEIo, xEIa] (o1, S1)) ∧ q_Fi l yX7_guildOf kX7_guildOf 4 [.ref 112, .int x, .int y] S1 v S2 ∧ uW_ok [xEIo, xEIa] o1 v (S2 112 6) ∧ Inv (c + 1) S2
def uSt_canLearn (l : Launch) (Inv : Nat → q_St → Prop) : Prop := ∀ c S (x : Int32) (y : Int32), c < 512 → Inv c S → ∃ (o1 : Int32 ⊕ String) (S1 : q_St) (v : Int32) (S2 : q_St), q_Fw l yL_canLearn kL_canLearn [.ref 0, .int x, .int (uB y), .ref 120] S (uW [xEIo] (o1, S1)) ∧ q_Fi l yX7_canLearn kX7_canLearn 4 [.ref 112, .int x, .int (uB y)] S1 v S2 ∧ uW_ok [xEIo] o1 v (S2 112 6) ∧ (v = 0 ∨ v = 1) ∧ Inv (c + 1) S2
def uSt_pass (l : Launch) (Inv : Nat → q_St → Prop) : Prop := ∀ c S (x : Int32), c < 512 → Inv c S → ∃ (o1 : Int32 ⊕ String) (S1 : q_St) (v : Int32) (S2 : q_St), q_Fw l yL_pass kL_pass [.ref 0, .int x, .ref 120] S (uW [xEIa] (o1, S1)) ∧ q_Fi l yX7_pass kX7_pass 5 [.ref 112, .int x] S1 v S2 ∧ uW_ok [xEIa] o1 v (S2 112 6) ∧ Inv (c + 1) S2
def uSt_ranked (l : Launch) (Inv : Nat → q_St → Prop) : Prop := ∀ c S (x : Int32), c < 512 → Inv c S → ∃ (o1 : Int32 ⊕ String) (S1 : q_St) (v : Int32) (S2 : q_St), q_Fw l yL_ranked kL_ranked [.ref 0, .int x, .ref 120] S (uW [xEIo] (o1, S1)) ∧ q_Fi l yX7_ranked kX7_ranked 2 [.ref 112, .int x] S1 v S2 ∧ uW_ok [xEIo] o1 v (S2 112 6) ∧ Inv (c + 1) S2
def uSt_coins (l : Launch) (Inv : Nat → q_St → Prop) : Prop := ∀ c S (x : Int32), c < 512 → Inv c S → ∃ (S1 : q_St) (v : Int32) (S2 : q_St), q_Fi l yX6_coins kX6_coins 3 [.ref 0, .int (uB x)] S v S1 ∧ q_Fi l yX7_coins kX7_coins 2 [.ref 112, .int (uB x)] S1 v S2 ∧ Inv (c + 1) S2
def uSt_line (l : Launch) (Inv : Nat → q_St → Prop) : Prop := ∀ c S (x : Int32), c < 512 → Inv c S → ∃ (o1 : Int32 ⊕ String) (S1 : q_St) (v : Int32) (S2 : q_St), q_Fw l yL_line kL_line [.ref 0, .int x, .ref 120] S (uW [xENs] (o1, S1)) ∧ q_Fi l yX7_line kX7_line 5 [.ref 112, .int x] S1 v S2 ∧ uW_ok [xENs] o1 v (S2 112 6) ∧ Inv (c + 1) S2
def uSt_character (l : Launch) (Inv : Nat → q_St → Prop) : Prop := ∀ c S (x : Int32), c < 512 → Inv c S → ∃ (o1 : Int32 ⊕ String) (S1 : q_St) (v : Int32) (S2 : q_St), q_Fw l yL_character kL_character [.ref 0, .int x, .ref 120] S (uW [xEIo] (o1, S1)) ∧ q_Fi l yX7_character kX7_character 2 [.ref 112, .int x] S1 v S2 ∧ uW_ok [xEIo] o1 v (S2 112 6) ∧ Inv (c + 1) S2
def uSt_append (l : Launch) (Inv : Nat → q_St → Prop) : Prop := ∀ c S (x : Int32), c < 512 → Inv c S → ∃ (o1 : Int32 ⊕ String) (S1 : q_St) (v : Int32) (S2 : q_St), q_Fw l yL_append kL_append [.ref 0, .int (uCh x), .ref 120] S (uW [xEIs] (o1, S1)) ∧ q_Fi l yX7_append kX7_append 1 [.ref 112, .int (uCh x)] S1 v S2 ∧ uW_ok [xEIs] o1 v (S2 112 6) ∧ Inv (c + 1) S2
def uSt_run (l : Launch) (Inv : Nat → q_St → Prop) : Prop := ∀ c S, c < 512 → Inv c S → ∃ (o1 : Int32 ⊕ String) (S1 : q_St) (v : Int32) (S2 : q_St), q_Fw l yL_run kL_run [.ref 0, .ref 120] S (uW [xEIa, xEUn] (o1, S1)) ∧ q_Fi l yX7_run kX7_run 7 [.ref 112] S1 v S2 ∧ uW_ok [xEIa, xEUn] o1 v (S2 112 6) ∧ Inv (c + 1) S2
def uSt_errorPosition (l : Launch) (Inv : Nat → q_St → Prop) : Prop := ∀ c S, c < 512 → Inv c S → ∃ (S1 : q_St) (v : Int32) (S2 : q_St), q_Fi l yX6_errorPosition kX6_errorPosition 1 [.ref 0] S v S1 ∧ q_Fi l yX7_errorPosition kX7_errorPosition 1 [.ref 112] S1 v S2 ∧ Inv (c + 1) S2
def uSt_refusal (l : Launch) (Inv : Nat → q_St → Prop) : Prop := ∀ c S (x : Int32), c < 512 → Inv c S → ∃ (o1 : Int32 ⊕ String) (S1 : q_St) (v : Int32) (S2 : q_St), q_Fw l yL_refusal kL_refusal [.ref 0, .int (uB x), .ref 120] S (uW [xENs] (o1, S1)) ∧ q_Fi l yX7_refusal kX7_refusal 1 [.ref 112, .int (uB x)] S1 v S2 ∧ uW_ok [xENs] o1 v (S2 112 6) ∧ Inv (c + 1) S2
def uSt_account (l : Launch) (Inv : Nat → q_St → Prop) : Prop := ∀ c S (x : Int32), c < 512 → Inv c S → ∃ (o1 : Int32 ⊕ String) (S1 : q_St) (v : Int32) (S2 : q_St), q_Fw l yL_account kL_account [.ref 0, .int x, .ref 120] S (uW [xEIa] (o1, S1)) ∧ q_Fi l yX7_account kX7_account 5 [.ref 112, .int x] S1 v S2 ∧ uW_ok [xEIa] o1 v (S2 112 6) ∧ Inv (c + 1) S2
def uSt_isWell (l : Launch) (Inv : Nat → q_St → Prop) : Prop := ∀ c S, c < 512 → Inv c S → ∃ (S1 : q_St) (v : Int32) (S2 : q_St), q_Fi l yX6_isWell kX6_isWell 5 [.ref 0] S v S1 ∧ q_Fi l yX7_isWell kX7_isWell 5 [.ref 112] S1 v S2 ∧ Inv (c + 1) S2
def uSt_meanDoubt (l : Launch) (Inv : Nat → q_St → Prop) : Prop := ∀ c S, c < 512 → Inv c S → ∃ (S1 : q_St) (v : UInt64) (S2 : q_St), q_Fd l yX6_meanDoubt kX6_meanDoubt 2 [.ref 0] S v S1 ∧ q_Fd l yX7_meanDoubt kX7_meanDoubt 2 [.ref 112] S1 v S2 ∧ FP.Core.dIsNaN v = false ∧ Inv (c + 1) S2
def uSt_sealedShare (l : Launch) (Inv : Nat → q_St → Prop) : Prop := ∀ c S, c < 512 → Inv c S → ∃ (o1 : UInt32 ⊕ String) (S1 : q_St) (v : UInt32) (S2 : q_St), q_Fw l yL_sealedShare kL_sealedShare [.ref 0, .ref 121] S (uWf [xEAr] (o1, S1)) ∧ q_Ff l yX7_sealedShare kX7_sealedShare 3 [.ref 112] S1 v S2 ∧ uWf_ok [xEAr] o1 v (S2 112 6) ∧ (S2 112 6 = 0 → vf_n64 (FP.f2d v) ∧ FP.Core.dIsNaN (FP.f2d v) = false) ∧ Inv (c + 1) S2
def uSt_undo (l : Launch) (Inv : Nat → q_St → Prop) : Prop := ∀ c S, c < 512 → Inv c S → ∃ (o1 : Int32 ⊕ String) (S1 : q_St) (v : Int32) (S2 : q_St), q_Fw l yL_undo kL_undo [.ref 0, .ref 120] S (uW [xEIs] (o1, S1)) ∧ q_Fi l yX7_undo kX7_undo 1 [.ref 112] S1 v S2 ∧ uW_ok [xEIs] o1 v (S2 112 6) ∧ Inv (c + 1) S2
def uSt_save (l : Launch) (Inv : Nat → q_St → Prop) : Prop := ∀ c S, c < 512 → Inv c S → ∃ (S1 : q_St) (v : Int32) (S2 : q_St), q_Fi l yX6_save kX6_save 2 [.ref 0] S v S1 ∧ q_Fi l yX7_save kX7_save 1 [.ref 112] S1 v S2 ∧ Inv (c + 1) S2
def uSt_restore (l : Launch) (Inv : Nat → q_St → Prop) : Prop := ∀ c S, c < 512 → Inv c S → ∃ (o1 : Int32 ⊕ String) (S1 : q_St) (v : Int32) (S2 : q_St), q_Fw l yL_restore kL_restore [.ref 0, .ref 120] S (uW [xEIs] (o1, S1)) ∧ q_Fi l yX7_restore kX7_restore 1 [.ref 112] S1 v S2 ∧ uW_ok [xEIs] o1 v (S2 112 6) ∧ Inv (c + 1) S2
def uSteps (l : Launch) (Inv : Nat → q_St → Prop) : Prop := (∀ c S, Inv c S → Inv (c + 1) S) ∧ uSt_matter l Inv ∧ uSt_set l Inv ∧ uSt_matterOf l Inv ∧ uSt_answer l Inv ∧ uSt_amount l Inv ∧ uSt_ask l Inv ∧ uSt_decide l Inv ∧ uSt_tell l Inv ∧ uSt_faint l Inv ∧ uSt_wake l Inv ∧ uSt_isAwake l Inv ∧ uSt_book l Inv ∧ uSt_wouldSeal l Inv ∧ uSt_sleep l Inv ∧ uSt_rouse l Inv ∧ uSt_inquire l Inv ∧ uSt_guildOf l Inv ∧ uSt_canLearn l Inv ∧ uSt_pass l Inv ∧ uSt_ranked l Inv ∧ uSt_coins l Inv ∧ uSt_line l Inv ∧ uSt_character l Inv ∧ uSt_append l Inv ∧ uSt_run l Inv ∧ uSt_errorPosition l Inv ∧ uSt_refusal l Inv ∧ uSt_account l Inv ∧ uSt_isWell l Inv ∧ uSt_meanDoubt l Inv ∧ uSt_sealedShare l Inv ∧ uSt_undo l Inv ∧ uSt_save l Inv ∧ uSt_restore l Inv
set_option maxHeartbeats 4000000 in
theorem law_loop (l : Launch) (K : q_K) (b n : Nat) (xs : Nat → Int32) (hn : n ≤ 2048) (hC : q_LC l K b n xs) (Inv : Nat → q_St → Prop) (hI : uSteps l Inv) (hret : ∀ (L : q_L) (a : Nat) (lv : List (Nat × Value)) (S : q_St), a ≤ 3072 → q_V l (q_KL K L a) 2023 lv [.int 1] S) : ∀ (k c : Nat), c + k = 513 → 4 * c ≤ n + 3 → ∀ (L : q_L) (S : q_St), Inv c S → q_V l (q_KL K L (6 * c)) 28 (q_lvL (4 * c)) [] S := by
  obtain ⟨hI_mono, hI_matter, hI_set, hI_matterOf, hI_answer, hI_amount, hI_ask, hI_decide, hI_tell, hI_faint, hI_wake, hI_isAwake, hI_book, hI_wouldSeal, hI_sleep, hI_rouse, hI_inquire, hI_guildOf, hI_canLearn, hI_pass, hI_ranked, hI_coins, hI_line, hI_character, hI_append, hI_run, hI_errorPosition, hI_refusal, hI_account, hI_isWell, hI_meanDoubt, hI_sealedShare, hI_undo, hI_save, hI_restore⟩ := hI
  intro k
  induction k with
  | zero => intro c h1 h2; omega
  | succ k ih =>
    intro c h1 h2 L S hS
    have C := hC.1 L (6 * c) (by omega)
    refine q_iload C dL_law_28 rfl ?_
    refine q_aload_n C dL_law_30 rfl rfl ?_
    refine q_slen C (hC.2.2 _ _) dL_law_31 ?_
    refine q_iconst (v := 4) C dL_law_32 (by decide) ?_
    refine q_isub C dL_law_33 ?_
    refine q_icmp_gt (tgt := 2022) C dL_law_34 (by decide) (fun _ => ?_) (fun h9 => ?_)
    · refine q_iconst (v := 1) C dL_law_2022 (by decide) ?_
      exact hret _ _ _ _ (by omega)
    · have hi := uI_lim (by omega) hn h9
      have hn31 : n < 2 ^ 31 := by omega
      have ha : 6 * c + 6 ≤ 3072 := by omega
      have hc5 : c < 512 := by omega
      have next : ∀ (S2 : q_St), Inv (c + 1) S2 → ∀ L9 : q_L, q_V l (q_KL K L9 (6 * c + 6)) 2016 (q_lvL (4 * c)) [] S2 := by
        intro S2 hS2 L9
        have C := hC.1 L9 (6 * c + 6) (by omega)
        refine q_iinc (v := nI (4 * c + 4)) (lv' := q_lvL (4 * c + 4)) C dL_law_2016 rfl (nI_add _ _) (by decide) rfl ?_
        refine q_goto (tgt := 28) C dL_law_2019 (by decide) ?_
        exact ih (c + 1) (by omega) (by omega) L9 S2 hS2
      refine q_aload_n C dL_law_37 rfl rfl ?_
      refine q_iload C dL_law_38 rfl ?_
      refine q_sld (j := 4 * c) C (hC.2.2 _ _) rfl (by omega) hn31 dL_law_40 ?_
      refine q_bipush (v := 63) C dL_law_41 (by decide) ?_
      refine q_iand C dL_law_43 ?_
      obtain ⟨w, hw64, hw⟩ := uI_63 (xs (4 * c))
      rw [hw]
      rcases (show w = 0 ∨ w = 1 ∨ w = 2 ∨ w = 3 ∨ w = 4 ∨ w = 5 ∨ w = 6 ∨ w = 7 ∨ w = 8 ∨ w = 9 ∨ w = 10 ∨ w = 11 ∨ w = 12 ∨ w = 13 ∨ w = 14 ∨ w = 15 ∨ w = 16 ∨ w = 17 ∨ w = 18 ∨ w = 19 ∨ w = 20 ∨ w = 21 ∨ w = 22 ∨ w = 23 ∨ w = 24 ∨ w = 25 ∨ w = 26 ∨ w = 27 ∨ w = 28 ∨ w = 29 ∨ w = 30 ∨ w = 31 ∨ w = 32 ∨ w = 33 ∨ 34 ≤ w by omega) with rfl | rfl | rfl | rfl | rfl | rfl | rfl | rfl | rfl | rfl | rfl | rfl | rfl | rfl | rfl | rfl | rfl | rfl | rfl | rfl | rfl | rfl | rfl | rfl | rfl | rfl | rfl | rfl | rfl | rfl | rfl | rfl | rfl | rfl | hd
      · refine q_tabin (off := 152) (tgt := 196) C dL_law_44 (by decide) (by decide) (by decide) (by decide) ?_
        obtain ⟨o1, S1, v, S2, q1, q2, q3, q4⟩ := hI_matter c S hc5 hS
        exact law_matter l K b n xs hC L (6 * c) (4 * c) S S1 S2 ha hi hn31 o1 v q1 q2 q3 (next S2 q4)
      · refine q_tabin (off := 196) (tgt := 240) C dL_law_44 (by decide) (by decide) (by decide) (by decide) ?_
        obtain ⟨o1, S1, v, S2, q1, q2, q3, q4⟩ := hI_set c S (xs (4 * c + 1)) (xs (4 * c + 2)) (xs (4 * c + 3)) hc5 hS
        exact law_set l K b n xs hC L (6 * c) (4 * c) S S1 S2 ha hi hn31 o1 v q1 q2 q3 (next S2 q4)
      · refine q_tabin (off := 276) (tgt := 320) C dL_law_44 (by decide) (by decide) (by decide) (by decide) ?_
        obtain ⟨o1, S1, v, S2, q1, q2, q3, q4⟩ := hI_matterOf c S (xs (4 * c + 1)) (xs (4 * c + 2)) hc5 hS
        exact law_matterOf l K b n xs hC L (6 * c) (4 * c) S S1 S2 ha hi hn31 o1 v q1 q2 q3 (next S2 q4)
      · refine q_tabin (off := 344) (tgt := 388) C dL_law_44 (by decide) (by decide) (by decide) (by decide) ?_
        obtain ⟨o1, S1, v, S2, q1, q2, q3, q4⟩ := hI_answer c S (xs (4 * c + 1)) (xs (4 * c + 2)) hc5 hS
        exact law_answer l K b n xs hC L (6 * c) (4 * c) S S1 S2 ha hi hn31 o1 v q1 q2 q3 (next S2 q4)
      · refine q_tabin (off := 412) (tgt := 456) C dL_law_44 (by decide) (by decide) (by decide) (by decide) ?_
        obtain ⟨o1, S1, v, S2, q1, q2, q3, q4⟩ := hI_amount c S (xs (4 * c + 1)) (xs (4 * c + 2)) hc5 hS
        exact law_amount l K b n xs hC L (6 * c) (4 * c) S S1 S2 ha hi hn31 o1 v q1 q2 q3 (next S2 q4)
      · refine q_tabin (off := 480) (tgt := 524) C dL_law_44 (by decide) (by decide) (by decide) (by decide) ?_
        obtain ⟨o1, S1, v, S2, q1, q2, q3, q4⟩ := hI_ask c S (xs (4 * c + 1)) (xs (4 * c + 2)) hc5 hS
        exact law_ask l K b n xs hC L (6 * c) (4 * c) S S1 S2 ha hi hn31 o1 v q1 q2 q3 (next S2 q4)
      · refine q_tabin (off := 548) (tgt := 592) C dL_law_44 (by decide) (by decide) (by decide) (by decide) ?_
        obtain ⟨o1, S1, v, S2, q1, q2, q3, q4⟩ := hI_decide c S (xs (4 * c + 1)) hc5 hS
        exact law_decide l K b n xs hC L (6 * c) (4 * c) S S1 S2 ha hi hn31 o1 v q1 q2 q3 (next S2 q4)
      · refine q_tabin (off := 604) (tgt := 648) C dL_law_44 (by decide) (by decide) (by decide) (by decide) ?_
        obtain ⟨o1, S1, v, S2, q1, q2, q3, q4⟩ := hI_tell c S (xs (4 * c + 1)) (xs (4 * c + 2)) hc5 hS
        exact law_tell l K b n xs hC L (6 * c) (4 * c) S S1 S2 ha hi hn31 o1 v q1 q2 q3 (next S2 q4)
      · refine q_tabin (off := 672) (tgt := 716) C dL_law_44 (by decide) (by decide) (by decide) (by decide) ?_
        obtain ⟨o1, S1, v, S2, q1, q2, q3, q4⟩ := hI_faint c S hc5 hS
        exact law_faint l K b n xs hC L (6 * c) (4 * c) S S1 S2 ha hi hn31 o1 v q1 q2 q3 (next S2 q4)
      · refine q_tabin (off := 716) (tgt := 760) C dL_law_44 (by decide) (by decide) (by decide) (by decide) ?_
        obtain ⟨o1, S1, v, S2, q1, q2, q3, q4⟩ := hI_wake c S hc5 hS
        exact law_wake l K b n xs hC L (6 * c) (4 * c) S S1 S2 ha hi hn31 o1 v q1 q2 q3 (next S2 q4)
      · refine q_tabin (off := 760) (tgt := 804) C dL_law_44 (by decide) (by decide) (by decide) (by decide) ?_
        obtain ⟨S1, v, S2, q1, q2, q4⟩ := hI_isAwake c S hc5 hS
        exact law_isAwake l K b n xs hC L (6 * c) (4 * c) S S1 S2 ha hi hn31 v q1 q2 (next S2 q4)
      · refine q_tabin (off := 773) (tgt := 817) C dL_law_44 (by decide) (by decide) (by decide) (by decide) ?_
        obtain ⟨o1, S1, v, S2, q1, q2, q3, q4⟩ := hI_book c S (xs (4 * c + 1)) hc5 hS
        exact law_book l K b n xs hC L (6 * c) (4 * c) S S1 S2 ha hi hn31 o1 v q1 q2 q3 (next S2 q4)
      · refine q_tabin (off := 829) (tgt := 873) C dL_law_44 (by decide) (by decide) (by decide) (by decide) ?_
        obtain ⟨o1, S1, v, S2, q1, q2, q3, q5, q4⟩ := hI_wouldSeal c S (xs (4 * c + 1)) hc5 hS
        exact law_wouldSeal l K b n xs hC L (6 * c) (4 * c) S S1 S2 ha hi hn31 o1 v q1 q2 q3 q5 (next S2 q4)
      · refine q_tabin (off := 892) (tgt := 936) C dL_law_44 (by decide) (by decide) (by decide) (by decide) ?_
        obtain ⟨o1, S1, v, S2, q1, q2, q3, q4⟩ := hI_sleep c S (xs (4 * c + 1)) hc5 hS
        exact law_sleep l K b n xs hC L (6 * c) (4 * c) S S1 S2 ha hi hn31 o1 v q1 q2 q3 (next S2 q4)
      · refine q_tabin (off := 948) (tgt := 992) C dL_law_44 (by decide) (by decide) (by decide) (by decide) ?_
        obtain ⟨o1, S1, v, S2, q1, q2, q3, q4⟩ := hI_rouse c S (xs (4 * c + 1)) hc5 hS
        exact law_rouse l K b n xs hC L (6 * c) (4 * c) S S1 S2 ha hi hn31 o1 v q1 q2 q3 (next S2 q4)
      · refine q_tabin (off := 1004) (tgt := 1048) C dL_law_44 (by decide) (by decide) (by decide) (by decide) ?_
        obtain ⟨o1, S1, v, S2, q1, q2, q3, q4⟩ := hI_inquire c S (xs (4 * c + 1)) (xs (4 * c + 2)) (xs (4 * c + 3)) hc5 hS
        exact law_inquire l K b n xs hC L (6 * c) (4 * c) S S1 S2 ha hi hn31 o1 v q1 q2 q3 (next S2 q4)
      · refine q_tabin (off := 1084) (tgt := 1128) C dL_law_44 (by decide) (by decide) (by decide) (by decide) ?_
        obtain ⟨o1, S1, v, S2, q1, q2, q3, q4⟩ := hI_guildOf c S (xs (4 * c + 1)) (xs (4 * c + 2)) hc5 hS
        exact law_guildOf l K b n xs hC L (6 * c) (4 * c) S S1 S2 ha hi hn31 o1 v q1 q2 q3 (next S2 q4)
      · refine q_tabin (off := 1152) (tgt := 1196) C dL_law_44 (by decide) (by decide) (by decide) (by decide) ?_
        obtain ⟨o1, S1, v, S2, q1, q2, q3, q5, q4⟩ := hI_canLearn c S (xs (4 * c + 1)) (xs (4 * c + 2)) hc5 hS
        exact law_canLearn l K b n xs hC L (6 * c) (4 * c) S S1 S2 ha hi hn31 o1 v q1 q2 q3 q5 (next S2 q4)
      · refine q_tabin (off := 1243) (tgt := 1287) C dL_law_44 (by decide) (by decide) (by decide) (by decide) ?_
        obtain ⟨o1, S1, v, S2, q1, q2, q3, q4⟩ := hI_pass c S (xs (4 * c + 1)) hc5 hS
        exact law_pass l K b n xs hC L (6 * c) (4 * c) S S1 S2 ha hi hn31 o1 v q1 q2 q3 (next S2 q4)
      · refine q_tabin (off := 1299) (tgt := 1343) C dL_law_44 (by decide) (by decide) (by decide) (by decide) ?_
        obtain ⟨o1, S1, v, S2, q1, q2, q3, q4⟩ := hI_ranked c S (xs (4 * c + 1)) hc5 hS
        exact law_ranked l K b n xs hC L (6 * c) (4 * c) S S1 S2 ha hi hn31 o1 v q1 q2 q3 (next S2 q4)
      · refine q_tabin (off := 1355) (tgt := 1399) C dL_law_44 (by decide) (by decide) (by decide) (by decide) ?_
        obtain ⟨S1, v, S2, q1, q2, q4⟩ := hI_coins c S (xs (4 * c + 1)) hc5 hS
        exact law_coins l K b n xs hC L (6 * c) (4 * c) S S1 S2 ha hi hn31 v q1 q2 (next S2 q4)
      · refine q_tabin (off := 1396) (tgt := 1440) C dL_law_44 (by decide) (by decide) (by decide) (by decide) ?_
        obtain ⟨o1, S1, v, S2, q1, q2, q3, q4⟩ := hI_line c S (xs (4 * c + 1)) hc5 hS
        exact law_line l K b n xs hC L (6 * c) (4 * c) S S1 S2 ha hi hn31 o1 v q1 q2 q3 (next S2 q4)
      · refine q_tabin (off := 1452) (tgt := 1496) C dL_law_44 (by decide) (by decide) (by decide) (by decide) ?_
        obtain ⟨o1, S1, v, S2, q1, q2, q3, q4⟩ := hI_character c S (xs (4 * c + 1)) hc5 hS
        exact law_character l K b n xs hC L (6 * c) (4 * c) S S1 S2 ha hi hn31 o1 v q1 q2 q3 (next S2 q4)
      · refine q_tabin (off := 1508) (tgt := 1552) C dL_law_44 (by decide) (by decide) (by decide) (by decide) ?_
        obtain ⟨o1, S1, v, S2, q1, q2, q3, q4⟩ := hI_append c S (xs (4 * c + 1)) hc5 hS
        exact law_append l K b n xs hC L (6 * c) (4 * c) S S1 S2 ha hi hn31 o1 v q1 q2 q3 (next S2 q4)
      · refine q_tabin (off := 1566) (tgt := 1610) C dL_law_44 (by decide) (by decide) (by decide) (by decide) ?_
        obtain ⟨o1, S1, v, S2, q1, q2, q3, q4⟩ := hI_run c S hc5 hS
        exact law_run l K b n xs hC L (6 * c) (4 * c) S S1 S2 ha hi hn31 o1 v q1 q2 q3 (next S2 q4)
      · refine q_tabin (off := 1610) (tgt := 1654) C dL_law_44 (by decide) (by decide) (by decide) (by decide) ?_
        obtain ⟨S1, v, S2, q1, q2, q4⟩ := hI_errorPosition c S hc5 hS
        exact law_errorPosition l K b n xs hC L (6 * c) (4 * c) S S1 S2 ha hi hn31 v q1 q2 (next S2 q4)
      · refine q_tabin (off := 1623) (tgt := 1667) C dL_law_44 (by decide) (by decide) (by decide) (by decide) ?_
        obtain ⟨o1, S1, v, S2, q1, q2, q3, q4⟩ := hI_refusal c S (xs (4 * c + 1)) hc5 hS
        exact law_refusal l K b n xs hC L (6 * c) (4 * c) S S1 S2 ha hi hn31 o1 v q1 q2 q3 (next S2 q4)
      · refine q_tabin (off := 1695) (tgt := 1739) C dL_law_44 (by decide) (by decide) (by decide) (by decide) ?_
        obtain ⟨o1, S1, v, S2, q1, q2, q3, q4⟩ := hI_account c S (xs (4 * c + 1)) hc5 hS
        exact law_account l K b n xs hC L (6 * c) (4 * c) S S1 S2 ha hi hn31 o1 v q1 q2 q3 (next S2 q4)
      · refine q_tabin (off := 1751) (tgt := 1795) C dL_law_44 (by decide) (by decide) (by decide) (by decide) ?_
        obtain ⟨S1, v, S2, q1, q2, q4⟩ := hI_isWell c S hc5 hS
        exact law_isWell l K b n xs hC L (6 * c) (4 * c) S S1 S2 ha hi hn31 v q1 q2 (next S2 q4)
      · refine q_tabin (off := 1764) (tgt := 1808) C dL_law_44 (by decide) (by decide) (by decide) (by decide) ?_
        obtain ⟨S1, v, S2, q1, q2, q3, q4⟩ := hI_meanDoubt c S hc5 hS
        exact law_meanDoubt l K b n xs hC L (6 * c) (4 * c) S S1 S2 ha hi hn31 v q1 q2 q3 (next S2 q4)
      · refine q_tabin (off := 1805) (tgt := 1849) C dL_law_44 (by decide) (by decide) (by decide) (by decide) ?_
        obtain ⟨o1, S1, v, S2, q1, q2, q3, q5, q4⟩ := hI_sealedShare c S hc5 hS
        exact law_sealedShare l K b n xs hC L (6 * c) (4 * c) S S1 S2 ha hi hn31 o1 v q1 q2 q3 q5 (next S2 q4)
      · refine q_tabin (off := 1871) (tgt := 1915) C dL_law_44 (by decide) (by decide) (by decide) (by decide) ?_
        obtain ⟨o1, S1, v, S2, q1, q2, q3, q4⟩ := hI_undo c S hc5 hS
        exact law_undo l K b n xs hC L (6 * c) (4 * c) S S1 S2 ha hi hn31 o1 v q1 q2 q3 (next S2 q4)
      · refine q_tabin (off := 1915) (tgt := 1959) C dL_law_44 (by decide) (by decide) (by decide) (by decide) ?_
        obtain ⟨S1, v, S2, q1, q2, q4⟩ := hI_save c S hc5 hS
        exact law_save l K b n xs hC L (6 * c) (4 * c) S S1 S2 ha hi hn31 v q1 q2 (next S2 q4)
      · refine q_tabin (off := 1928) (tgt := 1972) C dL_law_44 (by decide) (by decide) (by decide) (by decide) ?_
        obtain ⟨o1, S1, v, S2, q1, q2, q3, q4⟩ := hI_restore c S hc5 hS
        exact law_restore l K b n xs hC L (6 * c) (4 * c) S S1 S2 ha hi hn31 o1 v q1 q2 q3 (next S2 q4)
      · refine q_tabout (tgt := 2016) C dL_law_44 (Or.inr (by rw [nI_toInt (by omega)]; omega)) (by decide) ?_
        exact q_KLw (Nat.le_add_right (6 * c) 6) (next S (hI_mono c S hS) L)
