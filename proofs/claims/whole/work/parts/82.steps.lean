
/-! the steps, one for each command -/
theorem uStepsAll (l : Launch) (hst : l.stackTraces = false) : uSteps l uInv :=
  ⟨fun c S h => h.up, s_matter l hst, s_set l hst, s_matterOf l hst, s_answer l hst, s_amount l hst, s_ask l hst, s_decide l hst, s_tell l hst, s_faint l hst, s_wake l hst, s_isAwake l, s_book l hst, s_wouldSeal l hst, s_sleep l hst, s_rouse l hst, s_inquire l hst, s_guildOf l hst, s_canLearn l hst, s_pass l hst, s_ranked l hst, s_coins l, s_line l hst, s_character l hst, s_append l hst, s_run l hst, s_errorPosition l, s_refusal l hst, s_account l hst, s_isWell l, s_meanDoubt l, s_sealedShare l hst, s_undo l hst, s_save l, s_restore l hst⟩
/-- YOUR PART: from the entry, for every script of at most 2048 ints, the law comes to its end with true ('hflags': the launch's flags, for a law that throws: no stack traces) -/
theorem whole_start {p : Program} {e : Env} {s : State} {m : MethodId} {below : List Frame} {meth : Method} {c : Code} (l : Launch) (hflags : l.flags = flags0) {b L : Nat} {xs : Nat → Int32} (hL : L ≤ 2048) (C0 : lw_At p s m meth c b L xs) : W p l e room_1 s m #[Value.ref b] below meth c s.heap [] 0 0 (lw_Z below #[Value.ref b] s) (entryFrame m ([Value.ref b] : List Value).toArray 10) := by
  exact uStart l hflags hL C0 uInv (fun hst => uStepsAll l hst) uInv_0
