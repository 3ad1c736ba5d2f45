/-! the words by their places -/
theorem mg {w : Cond} (h : w ∈ lw_tbl) (hg : goodWord w = true) : w ∈ lw_g := List.mem_filter.mpr ⟨h, hg⟩
theorem wm0 : Cond.selects RX10 yX10_isDomain yX10_isDomain ∈ lw_g := mg (List.mem_of_getElem? (i := 0) (by decide +kernel)) rfl
theorem wm1 : Cond.selects RX10 yX10_homeUnder yX10_homeUnder ∈ lw_g := mg (List.mem_of_getElem? (i := 1) (by decide +kernel)) rfl
theorem wm2 : Cond.selects RX9 yX9_append yX9_append ∈ lw_g := mg (List.mem_of_getElem? (i := 2) (by decide +kernel)) rfl
theorem wm3 : Cond.selects RX10 yX10_hasKey yX10_hasKey ∈ lw_g := mg (List.mem_of_getElem? (i := 3) (by decide +kernel)) rfl
theorem wm4 : Cond.selects RX10 yX10_isSignature yX10_isSignature ∈ lw_g := mg (List.mem_of_getElem? (i := 4) (by decide +kernel)) rfl
theorem wm5 : Cond.selects RX10 yX10_checkSignature yX10_checkSignature ∈ lw_g := mg (List.mem_of_getElem? (i := 5) (by decide +kernel)) rfl
theorem wm6 : Cond.selects RX0 yX0_resultBy yX0_resultBy ∈ lw_g := mg (List.mem_of_getElem? (i := 6) (by decide +kernel)) rfl
theorem wm7 : Cond.selects RX0 yX0_outcomeOf yX0_outcomeOf ∈ lw_g := mg (List.mem_of_getElem? (i := 7) (by decide +kernel)) rfl
theorem wm8 : Cond.selects RX0 yX0_isLookupTooMany yX0_isLookupTooMany ∈ lw_g := mg (List.mem_of_getElem? (i := 8) (by decide +kernel)) rfl
theorem wm9 : Cond.selects RX0 yX0_including yX0_including ∈ lw_g := mg (List.mem_of_getElem? (i := 9) (by decide +kernel)) rfl
theorem wm10 : Cond.selects RX0 yX0_empty yX0_empty ∈ lw_g := mg (List.mem_of_getElem? (i := 10) (by decide +kernel)) rfl
theorem wm11 : Cond.selects RX0 yX0_exchangers yX0_exchangers ∈ lw_g := mg (List.mem_of_getElem? (i := 11) (by decide +kernel)) rfl
theorem wm12 : Cond.selects RX0 yX0_redirected yX0_redirected ∈ lw_g := mg (List.mem_of_getElem? (i := 12) (by decide +kernel)) rfl
theorem wm13 : Cond.selects RX10 yX10_chainState yX10_chainState ∈ lw_g := mg (List.mem_of_getElem? (i := 13) (by decide +kernel)) rfl
theorem wm14 : Cond.selects RX10 yX10_isLinkGood yX10_isLinkGood ∈ lw_g := mg (List.mem_of_getElem? (i := 14) (by decide +kernel)) rfl
theorem wm15 : Cond.selects RX10 yX10_policyOfAuthor yX10_policyOfAuthor ∈ lw_g := mg (List.mem_of_getElem? (i := 15) (by decide +kernel)) rfl
theorem wm16 : Cond.selects RX10 yX10_senderAgrees yX10_senderAgrees ∈ lw_g := mg (List.mem_of_getElem? (i := 16) (by decide +kernel)) rfl
theorem wm17 : Cond.selects RX10 yX10_isAligned yX10_isAligned ∈ lw_g := mg (List.mem_of_getElem? (i := 17) (by decide +kernel)) rfl
theorem wm18 : Cond.selects RX10 yX10_signatureAgrees yX10_signatureAgrees ∈ lw_g := mg (List.mem_of_getElem? (i := 18) (by decide +kernel)) rfl
theorem wm19 : Cond.selects RX10 yX10_actionBy yX10_actionBy ∈ lw_g := mg (List.mem_of_getElem? (i := 19) (by decide +kernel)) rfl
theorem wm20 : Cond.selects RX10 yX10_report yX10_report ∈ lw_g := mg (List.mem_of_getElem? (i := 20) (by decide +kernel)) rfl
theorem wm21 : Cond.selects RX11 yX11_isDomain yX11_isDomain ∈ lw_g := mg (List.mem_of_getElem? (i := 21) (by decide +kernel)) rfl
theorem wm22 : Cond.selects RX11 yX11_homeOf yX11_homeOf ∈ lw_g := mg (List.mem_of_getElem? (i := 22) (by decide +kernel)) rfl
theorem wm23 : Cond.selects RX11 yX11_checkSender yX11_checkSender ∈ lw_g := mg (List.mem_of_getElem? (i := 23) (by decide +kernel)) rfl
theorem wm24 : Cond.selects RX11 yX11_wait yX11_wait ∈ lw_g := mg (List.mem_of_getElem? (i := 24) (by decide +kernel)) rfl
theorem wm25 : Cond.selects RX11 yX11_stepOn yX11_stepOn ∈ lw_g := mg (List.mem_of_getElem? (i := 25) (by decide +kernel)) rfl
theorem wm26 : Cond.selects RX11 yX11_back yX11_back ∈ lw_g := mg (List.mem_of_getElem? (i := 26) (by decide +kernel)) rfl
theorem wm27 : Cond.selects RX11 yX11_sendOn yX11_sendOn ∈ lw_g := mg (List.mem_of_getElem? (i := 27) (by decide +kernel)) rfl
theorem wm28 : Cond.selects RX11 yX11_lookup yX11_lookup ∈ lw_g := mg (List.mem_of_getElem? (i := 28) (by decide +kernel)) rfl
theorem wm29 : Cond.selects RX11 yX11_tryTerm yX11_tryTerm ∈ lw_g := mg (List.mem_of_getElem? (i := 29) (by decide +kernel)) rfl
theorem wm30 : Cond.selects RX11 yX11_agrees yX11_agrees ∈ lw_g := mg (List.mem_of_getElem? (i := 30) (by decide +kernel)) rfl
theorem wm31 : Cond.selects RX11 yX11_empty yX11_empty ∈ lw_g := mg (List.mem_of_getElem? (i := 31) (by decide +kernel)) rfl
theorem wm32 : Cond.selects RX11 yX11_tryExchangers yX11_tryExchangers ∈ lw_g := mg (List.mem_of_getElem? (i := 32) (by decide +kernel)) rfl
theorem wm33 : Cond.selects RX11 yX11_isAt yX11_isAt ∈ lw_g := mg (List.mem_of_getElem? (i := 33) (by decide +kernel)) rfl
theorem wm34 : Cond.selects RX11 yX11_isThere yX11_isThere ∈ lw_g := mg (List.mem_of_getElem? (i := 34) (by decide +kernel)) rfl
theorem wm35 : Cond.selects RX11 yX11_makeBody yX11_makeBody ∈ lw_g := mg (List.mem_of_getElem? (i := 35) (by decide +kernel)) rfl
theorem wm36 : Cond.selects RX11 yX11_add yX11_add ∈ lw_g := mg (List.mem_of_getElem? (i := 36) (by decide +kernel)) rfl
theorem wm37 : Cond.selects RX11 yX11_makeHeader yX11_makeHeader ∈ lw_g := mg (List.mem_of_getElem? (i := 37) (by decide +kernel)) rfl
theorem wm38 : Cond.selects RX11 yX11_bodyLength yX11_bodyLength ∈ lw_g := mg (List.mem_of_getElem? (i := 38) (by decide +kernel)) rfl
theorem wm39 : Cond.selects RX11 yX11_make yX11_make ∈ lw_g := mg (List.mem_of_getElem? (i := 39) (by decide +kernel)) rfl
theorem wm40 : Cond.selects RX11 yX11_bodyDigest yX11_bodyDigest ∈ lw_g := mg (List.mem_of_getElem? (i := 40) (by decide +kernel)) rfl
theorem wm41 : Cond.selects RX11 yX11_mix yX11_mix ∈ lw_g := mg (List.mem_of_getElem? (i := 41) (by decide +kernel)) rfl
theorem wm42 : Cond.selects RX11 yX11_digest yX11_digest ∈ lw_g := mg (List.mem_of_getElem? (i := 42) (by decide +kernel)) rfl
theorem wm43 : Cond.selects RX11 yX11_sealOf yX11_sealOf ∈ lw_g := mg (List.mem_of_getElem? (i := 43) (by decide +kernel)) rfl
theorem wm44 : Cond.selects RX11 yX11_checkSignature yX11_checkSignature ∈ lw_g := mg (List.mem_of_getElem? (i := 44) (by decide +kernel)) rfl
theorem wm45 : Cond.selects RX11 yX11_chainState yX11_chainState ∈ lw_g := mg (List.mem_of_getElem? (i := 45) (by decide +kernel)) rfl
theorem wm46 : Cond.selects RX11 yX11_coverOf yX11_coverOf ∈ lw_g := mg (List.mem_of_getElem? (i := 46) (by decide +kernel)) rfl
theorem wm47 : Cond.selects RX11 yX11_isNear yX11_isNear ∈ lw_g := mg (List.mem_of_getElem? (i := 47) (by decide +kernel)) rfl
theorem wm48 : Cond.selects RX11 yX11_report yX11_report ∈ lw_g := mg (List.mem_of_getElem? (i := 48) (by decide +kernel)) rfl
theorem wm49 : Cond.initialized RL ∈ lw_g := mg (List.mem_of_getElem? (i := 49) (by decide +kernel)) rfl
theorem wm50 : Cond.initialized RX10 ∈ lw_g := mg (List.mem_of_getElem? (i := 50) (by decide +kernel)) rfl
theorem wm51 : Cond.initialized RX1 ∈ lw_g := mg (List.mem_of_getElem? (i := 51) (by decide +kernel)) rfl
theorem wm52 : Cond.initialized RX2 ∈ lw_g := mg (List.mem_of_getElem? (i := 52) (by decide +kernel)) rfl
theorem wm53 : Cond.initialized RX7 ∈ lw_g := mg (List.mem_of_getElem? (i := 53) (by decide +kernel)) rfl
theorem wm54 : Cond.initialized RX5 ∈ lw_g := mg (List.mem_of_getElem? (i := 54) (by decide +kernel)) rfl
theorem wm55 : Cond.initialized RX4 ∈ lw_g := mg (List.mem_of_getElem? (i := 55) (by decide +kernel)) rfl
theorem wm56 : Cond.initialized RX9 ∈ lw_g := mg (List.mem_of_getElem? (i := 56) (by decide +kernel)) rfl
theorem wm57 : Cond.initialized RX8 ∈ lw_g := mg (List.mem_of_getElem? (i := 57) (by decide +kernel)) rfl
theorem wm58 : Cond.initialized RX3 ∈ lw_g := mg (List.mem_of_getElem? (i := 58) (by decide +kernel)) rfl
theorem wm59 : Cond.initialized RX0 ∈ lw_g := mg (List.mem_of_getElem? (i := 59) (by decide +kernel)) rfl
theorem wm60 : Cond.initialized RX6 ∈ lw_g := mg (List.mem_of_getElem? (i := 60) (by decide +kernel)) rfl
theorem wm61 : Cond.initialized RX11 ∈ lw_g := mg (List.mem_of_getElem? (i := 61) (by decide +kernel)) rfl
theorem wm62 : Cond.classLink RL 7 RX10 ∈ lw_g := mg (List.mem_of_getElem? (i := 62) (by decide +kernel)) rfl
theorem wm63 : Cond.instantiable RX10 8 ∈ lw_g := mg (List.mem_of_getElem? (i := 63) (by decide +kernel)) rfl
theorem wm64 : Cond.methodLink RL 9 yX10_init ∈ lw_g := mg (List.mem_of_getElem? (i := 64) (by decide +kernel)) rfl
theorem wm65 : Cond.instanceMethod yX10_init ∈ lw_g := mg (List.mem_of_getElem? (i := 65) (by decide +kernel)) rfl
theorem wm66 : Cond.code yX10_init cX10_init 2 none ∈ lw_g := mg (List.mem_of_getElem? (i := 66) (by decide +kernel)) rfl
theorem wm67 : Cond.methodLink RX10 1 objectInit ∈ lw_g := mg (List.mem_of_getElem? (i := 67) (by decide +kernel)) rfl
theorem wm68 : Cond.instanceMethod objectInit ∈ lw_g := mg (List.mem_of_getElem? (i := 68) (by decide +kernel)) rfl
theorem wm70 : Cond.classLink RX10 9 RX1 ∈ lw_g := mg (List.mem_of_getElem? (i := 70) (by decide +kernel)) rfl
theorem wm71 : Cond.arrayOver (.object "MailArbiter$Domain") ∈ lw_tbl := List.mem_of_getElem? (i := 71) (by decide +kernel)
theorem wm72 : Cond.instantiable RX1 8 ∈ lw_g := mg (List.mem_of_getElem? (i := 72) (by decide +kernel)) rfl
theorem wm73 : Cond.methodLinkNest RX10 15 yX1_init RX10 ∈ lw_tbl := List.mem_of_getElem? (i := 73) (by decide +kernel)
theorem wm74 : Cond.instanceMethod yX1_init ∈ lw_g := mg (List.mem_of_getElem? (i := 74) (by decide +kernel)) rfl
theorem wm75 : Cond.code yX1_init cX1_init 1 none ∈ lw_g := mg (List.mem_of_getElem? (i := 75) (by decide +kernel)) rfl
theorem wm76 : Cond.methodLink RX1 3 objectInit ∈ lw_g := mg (List.mem_of_getElem? (i := 76) (by decide +kernel)) rfl
theorem wm77 : Cond.classLink RX1 9 RX2 ∈ lw_g := mg (List.mem_of_getElem? (i := 77) (by decide +kernel)) rfl
theorem wm78 : Cond.instantiable RX2 2 ∈ lw_g := mg (List.mem_of_getElem? (i := 78) (by decide +kernel)) rfl
theorem wm79 : Cond.methodLinkNest RX1 11 yX2_init RX10 ∈ lw_tbl := List.mem_of_getElem? (i := 79) (by decide +kernel)
theorem wm80 : Cond.instanceMethod yX2_init ∈ lw_g := mg (List.mem_of_getElem? (i := 80) (by decide +kernel)) rfl
theorem wm81 : Cond.code yX2_init cX2_init 1 none ∈ lw_g := mg (List.mem_of_getElem? (i := 81) (by decide +kernel)) rfl
theorem wm82 : Cond.methodLink RX2 3 objectInit ∈ lw_g := mg (List.mem_of_getElem? (i := 82) (by decide +kernel)) rfl
theorem wm83 : Cond.fieldLink RX2 9 "MailArbiter$Hosts" "values" "[I" ∈ lw_g := mg (List.mem_of_getElem? (i := 83) (by decide +kernel)) rfl
theorem wm84 : Cond.fieldLink RX0 99 "MailArbiter$Hosts" "values" "[I" ∈ lw_g := mg (List.mem_of_getElem? (i := 84) (by decide +kernel)) rfl
theorem wm85 : Cond.fieldLink RX2 15 "MailArbiter$Hosts" "count" "I" ∈ lw_g := mg (List.mem_of_getElem? (i := 85) (by decide +kernel)) rfl
theorem wm86 : Cond.fieldLink RX0 85 "MailArbiter$Hosts" "count" "I" ∈ lw_g := mg (List.mem_of_getElem? (i := 86) (by decide +kernel)) rfl
theorem wm92 : Cond.arrayClass (.int) ∈ lw_g := mg (List.mem_of_getElem? (i := 92) (by decide +kernel)) rfl
theorem wm93 : Cond.classLink RX1 21 RX7 ∈ lw_g := mg (List.mem_of_getElem? (i := 93) (by decide +kernel)) rfl
theorem wm94 : Cond.instantiable RX7 7 ∈ lw_g := mg (List.mem_of_getElem? (i := 94) (by decide +kernel)) rfl
theorem wm95 : Cond.methodLinkNest RX1 23 yX7_init RX10 ∈ lw_tbl := List.mem_of_getElem? (i := 95) (by decide +kernel)
theorem wm96 : Cond.instanceMethod yX7_init ∈ lw_g := mg (List.mem_of_getElem? (i := 96) (by decide +kernel)) rfl
theorem wm97 : Cond.code yX7_init cX7_init 1 none ∈ lw_g := mg (List.mem_of_getElem? (i := 97) (by decide +kernel)) rfl
theorem wm98 : Cond.methodLink RX7 3 objectInit ∈ lw_g := mg (List.mem_of_getElem? (i := 98) (by decide +kernel)) rfl
theorem wm99 : Cond.fieldLink RX7 31 "MailArbiter$Rule" "present" "Z" ∈ lw_g := mg (List.mem_of_getElem? (i := 99) (by decide +kernel)) rfl
theorem wm100 : Cond.fieldLink RX0 32 "MailArbiter$Rule" "present" "Z" ∈ lw_g := mg (List.mem_of_getElem? (i := 100) (by decide +kernel)) rfl
theorem wm101 : Cond.fieldLink RX7 28 "MailArbiter$Rule" "count" "I" ∈ lw_g := mg (List.mem_of_getElem? (i := 101) (by decide +kernel)) rfl
theorem wm102 : Cond.fieldLink RX0 37 "MailArbiter$Rule" "count" "I" ∈ lw_g := mg (List.mem_of_getElem? (i := 102) (by decide +kernel)) rfl
theorem wm103 : Cond.fieldLink RX7 9 "MailArbiter$Rule" "signs" "[I" ∈ lw_g := mg (List.mem_of_getElem? (i := 103) (by decide +kernel)) rfl
theorem wm104 : Cond.fieldLink RX0 44 "MailArbiter$Rule" "signs" "[I" ∈ lw_g := mg (List.mem_of_getElem? (i := 104) (by decide +kernel)) rfl
theorem wm105 : Cond.fieldLink RX7 15 "MailArbiter$Rule" "kinds" "[I" ∈ lw_g := mg (List.mem_of_getElem? (i := 105) (by decide +kernel)) rfl
theorem wm106 : Cond.fieldLink RX0 58 "MailArbiter$Rule" "kinds" "[I" ∈ lw_g := mg (List.mem_of_getElem? (i := 106) (by decide +kernel)) rfl
theorem wm107 : Cond.fieldLink RX7 18 "MailArbiter$Rule" "values" "[I" ∈ lw_g := mg (List.mem_of_getElem? (i := 107) (by decide +kernel)) rfl
theorem wm108 : Cond.fieldLink RX0 61 "MailArbiter$Rule" "values" "[I" ∈ lw_g := mg (List.mem_of_getElem? (i := 108) (by decide +kernel)) rfl
theorem wm109 : Cond.fieldLink RX7 21 "MailArbiter$Rule" "lengths" "[I" ∈ lw_g := mg (List.mem_of_getElem? (i := 109) (by decide +kernel)) rfl
theorem wm110 : Cond.fieldLink RX0 64 "MailArbiter$Rule" "lengths" "[I" ∈ lw_g := mg (List.mem_of_getElem? (i := 110) (by decide +kernel)) rfl
theorem wm111 : Cond.fieldLink RX7 24 "MailArbiter$Rule" "redirect" "I" ∈ lw_g := mg (List.mem_of_getElem? (i := 111) (by decide +kernel)) rfl
theorem wm112 : Cond.fieldLink RX0 48 "MailArbiter$Rule" "redirect" "I" ∈ lw_g := mg (List.mem_of_getElem? (i := 112) (by decide +kernel)) rfl
theorem wm128 : Cond.classLink RX1 32 RX5 ∈ lw_g := mg (List.mem_of_getElem? (i := 128) (by decide +kernel)) rfl
theorem wm129 : Cond.instantiable RX5 5 ∈ lw_g := mg (List.mem_of_getElem? (i := 129) (by decide +kernel)) rfl
theorem wm130 : Cond.methodLinkNest RX1 34 yX5_init RX10 ∈ lw_tbl := List.mem_of_getElem? (i := 130) (by decide +kernel)
theorem wm131 : Cond.instanceMethod yX5_init ∈ lw_g := mg (List.mem_of_getElem? (i := 131) (by decide +kernel)) rfl
theorem wm132 : Cond.code yX5_init cX5_init 1 none ∈ lw_g := mg (List.mem_of_getElem? (i := 132) (by decide +kernel)) rfl
theorem wm133 : Cond.methodLink RX5 3 objectInit ∈ lw_g := mg (List.mem_of_getElem? (i := 133) (by decide +kernel)) rfl
theorem wm134 : Cond.fieldLink RX5 24 "MailArbiter$Policy" "present" "Z" ∈ lw_g := mg (List.mem_of_getElem? (i := 134) (by decide +kernel)) rfl
theorem wm135 : Cond.fieldLink RX10 115 "MailArbiter$Policy" "present" "Z" ∈ lw_g := mg (List.mem_of_getElem? (i := 135) (by decide +kernel)) rfl
theorem wm136 : Cond.fieldLink RX5 9 "MailArbiter$Policy" "own" "I" ∈ lw_g := mg (List.mem_of_getElem? (i := 136) (by decide +kernel)) rfl
theorem wm137 : Cond.fieldLink RX10 307 "MailArbiter$Policy" "own" "I" ∈ lw_g := mg (List.mem_of_getElem? (i := 137) (by decide +kernel)) rfl
theorem wm138 : Cond.fieldLink RX5 15 "MailArbiter$Policy" "below" "I" ∈ lw_g := mg (List.mem_of_getElem? (i := 138) (by decide +kernel)) rfl
theorem wm139 : Cond.fieldLink RX10 310 "MailArbiter$Policy" "below" "I" ∈ lw_g := mg (List.mem_of_getElem? (i := 139) (by decide +kernel)) rfl
theorem wm140 : Cond.fieldLink RX5 21 "MailArbiter$Policy" "strict" "I" ∈ lw_g := mg (List.mem_of_getElem? (i := 140) (by decide +kernel)) rfl
theorem wm141 : Cond.fieldLink RX10 300 "MailArbiter$Policy" "strict" "I" ∈ lw_g := mg (List.mem_of_getElem? (i := 141) (by decide +kernel)) rfl
theorem wm142 : Cond.fieldLink RX5 18 "MailArbiter$Policy" "part" "I" ∈ lw_g := mg (List.mem_of_getElem? (i := 142) (by decide +kernel)) rfl
theorem wm143 : Cond.fieldLink RX10 313 "MailArbiter$Policy" "part" "I" ∈ lw_g := mg (List.mem_of_getElem? (i := 143) (by decide +kernel)) rfl
theorem wm155 : Cond.fieldLink RX10 58 "MailArbiter$Domain" "suffix" "Z" ∈ lw_g := mg (List.mem_of_getElem? (i := 155) (by decide +kernel)) rfl
theorem wm156 : Cond.fieldLink RX10 66 "MailArbiter$Domain" "home" "I" ∈ lw_g := mg (List.mem_of_getElem? (i := 156) (by decide +kernel)) rfl
theorem wm157 : Cond.fieldLink RX0 22 "MailArbiter$Domain" "silent" "Z" ∈ lw_g := mg (List.mem_of_getElem? (i := 157) (by decide +kernel)) rfl
theorem wm158 : Cond.fieldLink RX10 69 "MailArbiter$Domain" "silent" "Z" ∈ lw_g := mg (List.mem_of_getElem? (i := 158) (by decide +kernel)) rfl
theorem wm159 : Cond.fieldLink RX1 12 "MailArbiter$Domain" "addresses" "LMailArbiter$Hosts;" ∈ lw_g := mg (List.mem_of_getElem? (i := 159) (by decide +kernel)) rfl
theorem wm160 : Cond.fieldLink RX10 76 "MailArbiter$Domain" "addresses" "LMailArbiter$Hosts;" ∈ lw_g := mg (List.mem_of_getElem? (i := 160) (by decide +kernel)) rfl
theorem wm161 : Cond.fieldLink RX0 82 "MailArbiter$Domain" "addresses" "LMailArbiter$Hosts;" ∈ lw_g := mg (List.mem_of_getElem? (i := 161) (by decide +kernel)) rfl
theorem wm162 : Cond.fieldLink RX1 18 "MailArbiter$Domain" "exchangers" "LMailArbiter$Hosts;" ∈ lw_g := mg (List.mem_of_getElem? (i := 162) (by decide +kernel)) rfl
theorem wm163 : Cond.fieldLink RX10 86 "MailArbiter$Domain" "exchangers" "LMailArbiter$Hosts;" ∈ lw_g := mg (List.mem_of_getElem? (i := 163) (by decide +kernel)) rfl
theorem wm164 : Cond.fieldLink RX0 78 "MailArbiter$Domain" "exchangers" "LMailArbiter$Hosts;" ∈ lw_g := mg (List.mem_of_getElem? (i := 164) (by decide +kernel)) rfl
theorem wm165 : Cond.fieldLink RX1 24 "MailArbiter$Domain" "rule" "LMailArbiter$Rule;" ∈ lw_g := mg (List.mem_of_getElem? (i := 165) (by decide +kernel)) rfl
theorem wm166 : Cond.fieldLink RX0 28 "MailArbiter$Domain" "rule" "LMailArbiter$Rule;" ∈ lw_g := mg (List.mem_of_getElem? (i := 166) (by decide +kernel)) rfl
theorem wm167 : Cond.fieldLink RX10 89 "MailArbiter$Domain" "rule" "LMailArbiter$Rule;" ∈ lw_g := mg (List.mem_of_getElem? (i := 167) (by decide +kernel)) rfl
theorem wm168 : Cond.fieldLink RX1 28 "MailArbiter$Domain" "keys" "[I" ∈ lw_g := mg (List.mem_of_getElem? (i := 168) (by decide +kernel)) rfl
theorem wm169 : Cond.fieldLink RX10 108 "MailArbiter$Domain" "keys" "[I" ∈ lw_g := mg (List.mem_of_getElem? (i := 169) (by decide +kernel)) rfl
theorem wm170 : Cond.fieldLink RX1 35 "MailArbiter$Domain" "policy" "LMailArbiter$Policy;" ∈ lw_g := mg (List.mem_of_getElem? (i := 170) (by decide +kernel)) rfl
theorem wm171 : Cond.fieldLink RX10 112 "MailArbiter$Domain" "policy" "LMailArbiter$Policy;" ∈ lw_g := mg (List.mem_of_getElem? (i := 171) (by decide +kernel)) rfl
theorem wm189 : Cond.classLink RX10 20 RX5 ∈ lw_g := mg (List.mem_of_getElem? (i := 189) (by decide +kernel)) rfl
theorem wm190 : Cond.methodLinkNest RX10 22 yX5_init RX10 ∈ lw_tbl := List.mem_of_getElem? (i := 190) (by decide +kernel)
theorem wm191 : Cond.classLink RX10 27 RX4 ∈ lw_g := mg (List.mem_of_getElem? (i := 191) (by decide +kernel)) rfl
theorem wm192 : Cond.instantiable RX4 13 ∈ lw_g := mg (List.mem_of_getElem? (i := 192) (by decide +kernel)) rfl
theorem wm193 : Cond.methodLink RX10 29 yX4_init ∈ lw_g := mg (List.mem_of_getElem? (i := 193) (by decide +kernel)) rfl
theorem wm194 : Cond.instanceMethod yX4_init ∈ lw_g := mg (List.mem_of_getElem? (i := 194) (by decide +kernel)) rfl
theorem wm195 : Cond.code yX4_init cX4_init 2 none ∈ lw_g := mg (List.mem_of_getElem? (i := 195) (by decide +kernel)) rfl
theorem wm196 : Cond.methodLink RX4 3 objectInit ∈ lw_g := mg (List.mem_of_getElem? (i := 196) (by decide +kernel)) rfl
theorem wm197 : Cond.classLink RX4 15 RX9 ∈ lw_g := mg (List.mem_of_getElem? (i := 197) (by decide +kernel)) rfl
theorem wm198 : Cond.arrayOver (.object "MailArbiter$Text") ∈ lw_tbl := List.mem_of_getElem? (i := 198) (by decide +kernel)
theorem wm199 : Cond.instantiable RX9 2 ∈ lw_g := mg (List.mem_of_getElem? (i := 199) (by decide +kernel)) rfl
theorem wm200 : Cond.methodLink RX4 21 yX9_init ∈ lw_g := mg (List.mem_of_getElem? (i := 200) (by decide +kernel)) rfl
theorem wm201 : Cond.instanceMethod yX9_init ∈ lw_g := mg (List.mem_of_getElem? (i := 201) (by decide +kernel)) rfl
theorem wm202 : Cond.code yX9_init cX9_init 2 none ∈ lw_g := mg (List.mem_of_getElem? (i := 202) (by decide +kernel)) rfl
theorem wm203 : Cond.methodLink RX9 3 objectInit ∈ lw_g := mg (List.mem_of_getElem? (i := 203) (by decide +kernel)) rfl
theorem wm204 : Cond.fieldLink RX9 9 "MailArbiter$Text" "characters" "[I" ∈ lw_g := mg (List.mem_of_getElem? (i := 204) (by decide +kernel)) rfl
theorem wm205 : Cond.fieldLink RX10 242 "MailArbiter$Text" "characters" "[I" ∈ lw_g := mg (List.mem_of_getElem? (i := 205) (by decide +kernel)) rfl
theorem wm206 : Cond.fieldLink RX9 15 "MailArbiter$Text" "count" "I" ∈ lw_g := mg (List.mem_of_getElem? (i := 206) (by decide +kernel)) rfl
theorem wm207 : Cond.fieldLink RX4 62 "MailArbiter$Text" "count" "I" ∈ lw_g := mg (List.mem_of_getElem? (i := 207) (by decide +kernel)) rfl
theorem wm208 : Cond.fieldLink RX10 148 "MailArbiter$Text" "count" "I" ∈ lw_g := mg (List.mem_of_getElem? (i := 208) (by decide +kernel)) rfl
theorem wm214 : Cond.classLink RX4 31 RX8 ∈ lw_g := mg (List.mem_of_getElem? (i := 214) (by decide +kernel)) rfl
theorem wm215 : Cond.arrayOver (.object "MailArbiter$Signature") ∈ lw_tbl := List.mem_of_getElem? (i := 215) (by decide +kernel)
theorem wm216 : Cond.classLink RX4 37 RX3 ∈ lw_g := mg (List.mem_of_getElem? (i := 216) (by decide +kernel)) rfl
theorem wm217 : Cond.arrayOver (.object "MailArbiter$Link") ∈ lw_tbl := List.mem_of_getElem? (i := 217) (by decide +kernel)
theorem wm218 : Cond.instantiable RX8 8 ∈ lw_g := mg (List.mem_of_getElem? (i := 218) (by decide +kernel)) rfl
theorem wm219 : Cond.methodLinkNest RX4 43 yX8_init RX10 ∈ lw_tbl := List.mem_of_getElem? (i := 219) (by decide +kernel)
theorem wm220 : Cond.instanceMethod yX8_init ∈ lw_g := mg (List.mem_of_getElem? (i := 220) (by decide +kernel)) rfl
theorem wm221 : Cond.code yX8_init cX8_init 1 none ∈ lw_g := mg (List.mem_of_getElem? (i := 221) (by decide +kernel)) rfl
theorem wm222 : Cond.methodLink RX8 3 objectInit ∈ lw_g := mg (List.mem_of_getElem? (i := 222) (by decide +kernel)) rfl
theorem wm223 : Cond.fieldLink RX8 9 "MailArbiter$Signature" "domain" "I" ∈ lw_g := mg (List.mem_of_getElem? (i := 223) (by decide +kernel)) rfl
theorem wm224 : Cond.fieldLink RX4 144 "MailArbiter$Signature" "domain" "I" ∈ lw_g := mg (List.mem_of_getElem? (i := 224) (by decide +kernel)) rfl
theorem wm225 : Cond.fieldLink RX10 249 "MailArbiter$Signature" "domain" "I" ∈ lw_g := mg (List.mem_of_getElem? (i := 225) (by decide +kernel)) rfl
theorem wm226 : Cond.fieldLink RX8 15 "MailArbiter$Signature" "selector" "I" ∈ lw_g := mg (List.mem_of_getElem? (i := 226) (by decide +kernel)) rfl
theorem wm227 : Cond.fieldLink RX4 147 "MailArbiter$Signature" "selector" "I" ∈ lw_g := mg (List.mem_of_getElem? (i := 227) (by decide +kernel)) rfl
theorem wm228 : Cond.fieldLink RX10 252 "MailArbiter$Signature" "selector" "I" ∈ lw_g := mg (List.mem_of_getElem? (i := 228) (by decide +kernel)) rfl
theorem wm229 : Cond.fieldLink RX8 18 "MailArbiter$Signature" "way" "I" ∈ lw_g := mg (List.mem_of_getElem? (i := 229) (by decide +kernel)) rfl
theorem wm230 : Cond.fieldLink RX4 150 "MailArbiter$Signature" "way" "I" ∈ lw_g := mg (List.mem_of_getElem? (i := 230) (by decide +kernel)) rfl
theorem wm231 : Cond.fieldLink RX8 21 "MailArbiter$Signature" "names" "I" ∈ lw_g := mg (List.mem_of_getElem? (i := 231) (by decide +kernel)) rfl
theorem wm232 : Cond.fieldLink RX4 153 "MailArbiter$Signature" "names" "I" ∈ lw_g := mg (List.mem_of_getElem? (i := 232) (by decide +kernel)) rfl
theorem wm233 : Cond.fieldLink RX8 24 "MailArbiter$Signature" "limit" "I" ∈ lw_g := mg (List.mem_of_getElem? (i := 233) (by decide +kernel)) rfl
theorem wm234 : Cond.fieldLink RX4 129 "MailArbiter$Signature" "limit" "I" ∈ lw_g := mg (List.mem_of_getElem? (i := 234) (by decide +kernel)) rfl
theorem wm235 : Cond.fieldLink RX10 258 "MailArbiter$Signature" "limit" "I" ∈ lw_g := mg (List.mem_of_getElem? (i := 235) (by decide +kernel)) rfl
theorem wm236 : Cond.fieldLink RX8 27 "MailArbiter$Signature" "expires" "I" ∈ lw_g := mg (List.mem_of_getElem? (i := 236) (by decide +kernel)) rfl
theorem wm237 : Cond.fieldLink RX4 155 "MailArbiter$Signature" "expires" "I" ∈ lw_g := mg (List.mem_of_getElem? (i := 237) (by decide +kernel)) rfl
theorem wm238 : Cond.fieldLink RX10 255 "MailArbiter$Signature" "expires" "I" ∈ lw_g := mg (List.mem_of_getElem? (i := 238) (by decide +kernel)) rfl
theorem wm239 : Cond.fieldLink RX4 112 "MailArbiter$Signature" "bodyDigest" "I" ∈ lw_g := mg (List.mem_of_getElem? (i := 239) (by decide +kernel)) rfl
theorem wm240 : Cond.fieldLink RX10 265 "MailArbiter$Signature" "bodyDigest" "I" ∈ lw_g := mg (List.mem_of_getElem? (i := 240) (by decide +kernel)) rfl
theorem wm241 : Cond.fieldLink RX4 119 "MailArbiter$Signature" "seal" "I" ∈ lw_g := mg (List.mem_of_getElem? (i := 241) (by decide +kernel)) rfl
theorem wm242 : Cond.fieldLink RX10 183 "MailArbiter$Signature" "seal" "I" ∈ lw_g := mg (List.mem_of_getElem? (i := 242) (by decide +kernel)) rfl
theorem wm260 : Cond.instantiable RX3 3 ∈ lw_g := mg (List.mem_of_getElem? (i := 260) (by decide +kernel)) rfl
theorem wm261 : Cond.methodLinkNest RX4 44 yX3_init RX10 ∈ lw_tbl := List.mem_of_getElem? (i := 261) (by decide +kernel)
theorem wm262 : Cond.instanceMethod yX3_init ∈ lw_g := mg (List.mem_of_getElem? (i := 262) (by decide +kernel)) rfl
theorem wm263 : Cond.code yX3_init cX3_init 1 none ∈ lw_g := mg (List.mem_of_getElem? (i := 263) (by decide +kernel)) rfl
theorem wm264 : Cond.methodLink RX3 1 objectInit ∈ lw_g := mg (List.mem_of_getElem? (i := 264) (by decide +kernel)) rfl
theorem wm265 : Cond.classLink RX3 7 RX8 ∈ lw_g := mg (List.mem_of_getElem? (i := 265) (by decide +kernel)) rfl
theorem wm266 : Cond.methodLinkNest RX3 9 yX8_init RX10 ∈ lw_tbl := List.mem_of_getElem? (i := 266) (by decide +kernel)
theorem wm267 : Cond.fieldLink RX3 10 "MailArbiter$Link" "signature" "LMailArbiter$Signature;" ∈ lw_g := mg (List.mem_of_getElem? (i := 267) (by decide +kernel)) rfl
theorem wm268 : Cond.fieldLink RX4 86 "MailArbiter$Link" "signature" "LMailArbiter$Signature;" ∈ lw_g := mg (List.mem_of_getElem? (i := 268) (by decide +kernel)) rfl
theorem wm269 : Cond.fieldLink RX10 285 "MailArbiter$Link" "signature" "LMailArbiter$Signature;" ∈ lw_g := mg (List.mem_of_getElem? (i := 269) (by decide +kernel)) rfl
theorem wm270 : Cond.fieldLink RX4 98 "MailArbiter$Link" "state" "I" ∈ lw_g := mg (List.mem_of_getElem? (i := 270) (by decide +kernel)) rfl
theorem wm271 : Cond.fieldLink RX10 291 "MailArbiter$Link" "state" "I" ∈ lw_g := mg (List.mem_of_getElem? (i := 271) (by decide +kernel)) rfl
theorem wm272 : Cond.fieldLink RX4 105 "MailArbiter$Link" "cover" "I" ∈ lw_g := mg (List.mem_of_getElem? (i := 272) (by decide +kernel)) rfl
theorem wm273 : Cond.fieldLink RX10 294 "MailArbiter$Link" "cover" "I" ∈ lw_g := mg (List.mem_of_getElem? (i := 273) (by decide +kernel)) rfl
theorem wm281 : Cond.fieldLink RX4 55 "MailArbiter$Mail" "present" "Z" ∈ lw_g := mg (List.mem_of_getElem? (i := 281) (by decide +kernel)) rfl
theorem wm282 : Cond.fieldLink RX10 126 "MailArbiter$Mail" "present" "Z" ∈ lw_g := mg (List.mem_of_getElem? (i := 282) (by decide +kernel)) rfl
theorem wm283 : Cond.fieldLink RX4 45 "MailArbiter$Mail" "sender" "I" ∈ lw_g := mg (List.mem_of_getElem? (i := 283) (by decide +kernel)) rfl
theorem wm284 : Cond.fieldLink RX10 189 "MailArbiter$Mail" "sender" "I" ∈ lw_g := mg (List.mem_of_getElem? (i := 284) (by decide +kernel)) rfl
theorem wm285 : Cond.fieldLink RX4 49 "MailArbiter$Mail" "author" "I" ∈ lw_g := mg (List.mem_of_getElem? (i := 285) (by decide +kernel)) rfl
theorem wm286 : Cond.fieldLink RX10 228 "MailArbiter$Mail" "author" "I" ∈ lw_g := mg (List.mem_of_getElem? (i := 286) (by decide +kernel)) rfl
theorem wm287 : Cond.fieldLink RX4 52 "MailArbiter$Mail" "address" "I" ∈ lw_g := mg (List.mem_of_getElem? (i := 287) (by decide +kernel)) rfl
theorem wm288 : Cond.fieldLink RX10 192 "MailArbiter$Mail" "address" "I" ∈ lw_g := mg (List.mem_of_getElem? (i := 288) (by decide +kernel)) rfl
theorem wm289 : Cond.fieldLink RX4 9 "MailArbiter$Mail" "names" "[I" ∈ lw_g := mg (List.mem_of_getElem? (i := 289) (by decide +kernel)) rfl
theorem wm290 : Cond.fieldLink RX4 17 "MailArbiter$Mail" "headers" "[LMailArbiter$Text;" ∈ lw_g := mg (List.mem_of_getElem? (i := 290) (by decide +kernel)) rfl
theorem wm291 : Cond.fieldLink RX4 59 "MailArbiter$Mail" "headerCount" "I" ∈ lw_g := mg (List.mem_of_getElem? (i := 291) (by decide +kernel)) rfl
theorem wm292 : Cond.fieldLink RX4 24 "MailArbiter$Mail" "body" "LMailArbiter$Text;" ∈ lw_g := mg (List.mem_of_getElem? (i := 292) (by decide +kernel)) rfl
theorem wm293 : Cond.fieldLink RX4 28 "MailArbiter$Mail" "form" "LMailArbiter$Text;" ∈ lw_g := mg (List.mem_of_getElem? (i := 293) (by decide +kernel)) rfl
theorem wm294 : Cond.fieldLink RX4 33 "MailArbiter$Mail" "signatures" "[LMailArbiter$Signature;" ∈ lw_g := mg (List.mem_of_getElem? (i := 294) (by decide +kernel)) rfl
theorem wm295 : Cond.fieldLink RX10 179 "MailArbiter$Mail" "signatures" "[LMailArbiter$Signature;" ∈ lw_g := mg (List.mem_of_getElem? (i := 295) (by decide +kernel)) rfl
theorem wm296 : Cond.fieldLink RX4 65 "MailArbiter$Mail" "signatureCount" "I" ∈ lw_g := mg (List.mem_of_getElem? (i := 296) (by decide +kernel)) rfl
theorem wm297 : Cond.fieldLink RX10 173 "MailArbiter$Mail" "signatureCount" "I" ∈ lw_g := mg (List.mem_of_getElem? (i := 297) (by decide +kernel)) rfl
theorem wm298 : Cond.fieldLink RX4 39 "MailArbiter$Mail" "links" "[LMailArbiter$Link;" ∈ lw_g := mg (List.mem_of_getElem? (i := 298) (by decide +kernel)) rfl
theorem wm299 : Cond.fieldLink RX10 281 "MailArbiter$Mail" "links" "[LMailArbiter$Link;" ∈ lw_g := mg (List.mem_of_getElem? (i := 299) (by decide +kernel)) rfl
theorem wm300 : Cond.fieldLink RX4 68 "MailArbiter$Mail" "linkCount" "I" ∈ lw_g := mg (List.mem_of_getElem? (i := 300) (by decide +kernel)) rfl
theorem wm301 : Cond.fieldLink RX10 275 "MailArbiter$Mail" "linkCount" "I" ∈ lw_g := mg (List.mem_of_getElem? (i := 301) (by decide +kernel)) rfl
theorem wm329 : Cond.classLink RX10 34 RX0 ∈ lw_g := mg (List.mem_of_getElem? (i := 329) (by decide +kernel)) rfl
theorem wm330 : Cond.instantiable RX0 2 ∈ lw_g := mg (List.mem_of_getElem? (i := 330) (by decide +kernel)) rfl
theorem wm331 : Cond.methodLinkNest RX10 36 yX0_init RX10 ∈ lw_tbl := List.mem_of_getElem? (i := 331) (by decide +kernel)
theorem wm332 : Cond.instanceMethod yX0_init ∈ lw_g := mg (List.mem_of_getElem? (i := 332) (by decide +kernel)) rfl
theorem wm333 : Cond.code yX0_init cX0_init 1 none ∈ lw_g := mg (List.mem_of_getElem? (i := 333) (by decide +kernel)) rfl
theorem wm334 : Cond.methodLink RX0 3 objectInit ∈ lw_g := mg (List.mem_of_getElem? (i := 334) (by decide +kernel)) rfl
theorem wm335 : Cond.fieldLink RX0 9 "MailArbiter$Check" "lookups" "I" ∈ lw_g := mg (List.mem_of_getElem? (i := 335) (by decide +kernel)) rfl
theorem wm336 : Cond.fieldLink RX10 199 "MailArbiter$Check" "lookups" "I" ∈ lw_g := mg (List.mem_of_getElem? (i := 336) (by decide +kernel)) rfl
theorem wm337 : Cond.fieldLink RX0 15 "MailArbiter$Check" "empties" "I" ∈ lw_g := mg (List.mem_of_getElem? (i := 337) (by decide +kernel)) rfl
theorem wm338 : Cond.fieldLink RX10 202 "MailArbiter$Check" "empties" "I" ∈ lw_g := mg (List.mem_of_getElem? (i := 338) (by decide +kernel)) rfl
theorem wm344 : Cond.classLink RX10 41 RX6 ∈ lw_g := mg (List.mem_of_getElem? (i := 344) (by decide +kernel)) rfl
theorem wm345 : Cond.arrayOver (.object "MailArbiter$Row") ∈ lw_tbl := List.mem_of_getElem? (i := 345) (by decide +kernel)
theorem wm346 : Cond.instantiable RX6 5 ∈ lw_g := mg (List.mem_of_getElem? (i := 346) (by decide +kernel)) rfl
theorem wm347 : Cond.methodLinkNest RX10 47 yX6_init RX10 ∈ lw_tbl := List.mem_of_getElem? (i := 347) (by decide +kernel)
theorem wm348 : Cond.instanceMethod yX6_init ∈ lw_g := mg (List.mem_of_getElem? (i := 348) (by decide +kernel)) rfl
theorem wm349 : Cond.code yX6_init cX6_init 1 none ∈ lw_g := mg (List.mem_of_getElem? (i := 349) (by decide +kernel)) rfl
theorem wm350 : Cond.methodLink RX6 3 objectInit ∈ lw_g := mg (List.mem_of_getElem? (i := 350) (by decide +kernel)) rfl
theorem wm351 : Cond.fieldLink RX6 9 "MailArbiter$Row" "home" "I" ∈ lw_g := mg (List.mem_of_getElem? (i := 351) (by decide +kernel)) rfl
theorem wm352 : Cond.fieldLink RX6 15 "MailArbiter$Row" "address" "I" ∈ lw_g := mg (List.mem_of_getElem? (i := 352) (by decide +kernel)) rfl
theorem wm353 : Cond.fieldLink RX6 18 "MailArbiter$Row" "done" "I" ∈ lw_g := mg (List.mem_of_getElem? (i := 353) (by decide +kernel)) rfl
theorem wm354 : Cond.fieldLink RX6 21 "MailArbiter$Row" "result" "I" ∈ lw_g := mg (List.mem_of_getElem? (i := 354) (by decide +kernel)) rfl
theorem wm355 : Cond.fieldLink RX6 24 "MailArbiter$Row" "times" "I" ∈ lw_g := mg (List.mem_of_getElem? (i := 355) (by decide +kernel)) rfl
theorem wm356 : Cond.fieldLink RX10 320 "MailArbiter$Row" "times" "I" ∈ lw_g := mg (List.mem_of_getElem? (i := 356) (by decide +kernel)) rfl
theorem wm368 : Cond.fieldLink RX10 11 "MailArbiter" "domains" "[LMailArbiter$Domain;" ∈ lw_g := mg (List.mem_of_getElem? (i := 368) (by decide +kernel)) rfl
theorem wm369 : Cond.fieldLink RX10 16 "MailArbiter" "domainCount" "I" ∈ lw_g := mg (List.mem_of_getElem? (i := 369) (by decide +kernel)) rfl
theorem wm370 : Cond.fieldLink RX10 23 "MailArbiter" "noPolicy" "LMailArbiter$Policy;" ∈ lw_g := mg (List.mem_of_getElem? (i := 370) (by decide +kernel)) rfl
theorem wm371 : Cond.fieldLink RX10 30 "MailArbiter" "mail" "LMailArbiter$Mail;" ∈ lw_g := mg (List.mem_of_getElem? (i := 371) (by decide +kernel)) rfl
theorem wm372 : Cond.fieldLink RX10 37 "MailArbiter" "check" "LMailArbiter$Check;" ∈ lw_g := mg (List.mem_of_getElem? (i := 372) (by decide +kernel)) rfl
theorem wm373 : Cond.fieldLink RX10 43 "MailArbiter" "rows" "[LMailArbiter$Row;" ∈ lw_g := mg (List.mem_of_getElem? (i := 373) (by decide +kernel)) rfl
theorem wm374 : Cond.fieldLink RX10 48 "MailArbiter" "rowCount" "I" ∈ lw_g := mg (List.mem_of_getElem? (i := 374) (by decide +kernel)) rfl
theorem wm375 : Cond.fieldLink RX10 51 "MailArbiter" "time" "I" ∈ lw_g := mg (List.mem_of_getElem? (i := 375) (by decide +kernel)) rfl
theorem wm393 : Cond.methodLink RL 13 yX10_domain ∈ lw_g := mg (List.mem_of_getElem? (i := 393) (by decide +kernel)) rfl
theorem wm394 : Cond.instanceMethod yX10_domain ∈ lw_g := mg (List.mem_of_getElem? (i := 394) (by decide +kernel)) rfl
theorem wm395 : Cond.selects RX10 yX10_domain yX10_domain ∈ lw_g := mg (List.mem_of_getElem? (i := 395) (by decide +kernel)) rfl
theorem wm396 : Cond.code yX10_domain cX10_domain 4 (some .int) ∈ lw_g := mg (List.mem_of_getElem? (i := 396) (by decide +kernel)) rfl
theorem wm397 : Cond.methodLink RX10 54 yX10_isDomain ∈ lw_g := mg (List.mem_of_getElem? (i := 397) (by decide +kernel)) rfl
theorem wm399 : Cond.instanceMethod yX10_isDomain ∈ lw_g := mg (List.mem_of_getElem? (i := 399) (by decide +kernel)) rfl
theorem wm400 : Cond.code yX10_isDomain cX10_isDomain 2 (some .boolean) ∈ lw_g := mg (List.mem_of_getElem? (i := 400) (by decide +kernel)) rfl
theorem wm401 : Cond.methodLink RX10 72 yX10_isWithin ∈ lw_g := mg (List.mem_of_getElem? (i := 401) (by decide +kernel)) rfl
theorem wm402 : Cond.static yX10_isWithin ∈ lw_g := mg (List.mem_of_getElem? (i := 402) (by decide +kernel)) rfl
theorem wm403 : Cond.code yX10_isWithin cX10_isWithin 3 (some .boolean) ∈ lw_g := mg (List.mem_of_getElem? (i := 403) (by decide +kernel)) rfl
theorem wm404 : Cond.methodLink RX10 62 yX10_homeUnder ∈ lw_g := mg (List.mem_of_getElem? (i := 404) (by decide +kernel)) rfl
theorem wm406 : Cond.instanceMethod yX10_homeUnder ∈ lw_g := mg (List.mem_of_getElem? (i := 406) (by decide +kernel)) rfl
theorem wm407 : Cond.code yX10_homeUnder cX10_homeUnder 3 (some .int) ∈ lw_g := mg (List.mem_of_getElem? (i := 407) (by decide +kernel)) rfl
theorem wm408 : Cond.methodLink RL 18 yX10_home ∈ lw_g := mg (List.mem_of_getElem? (i := 408) (by decide +kernel)) rfl
theorem wm409 : Cond.instanceMethod yX10_home ∈ lw_g := mg (List.mem_of_getElem? (i := 409) (by decide +kernel)) rfl
theorem wm410 : Cond.selects RX10 yX10_home yX10_home ∈ lw_g := mg (List.mem_of_getElem? (i := 410) (by decide +kernel)) rfl
theorem wm411 : Cond.code yX10_home cX10_home 2 (some .int) ∈ lw_g := mg (List.mem_of_getElem? (i := 411) (by decide +kernel)) rfl
theorem wm412 : Cond.methodLink RL 23 yX10_silent ∈ lw_g := mg (List.mem_of_getElem? (i := 412) (by decide +kernel)) rfl
theorem wm413 : Cond.instanceMethod yX10_silent ∈ lw_g := mg (List.mem_of_getElem? (i := 413) (by decide +kernel)) rfl
theorem wm414 : Cond.selects RX10 yX10_silent yX10_silent ∈ lw_g := mg (List.mem_of_getElem? (i := 414) (by decide +kernel)) rfl
theorem wm415 : Cond.code yX10_silent cX10_silent 3 (some .boolean) ∈ lw_g := mg (List.mem_of_getElem? (i := 415) (by decide +kernel)) rfl
theorem wm416 : Cond.methodLink RL 28 yX10_host ∈ lw_g := mg (List.mem_of_getElem? (i := 416) (by decide +kernel)) rfl
theorem wm417 : Cond.instanceMethod yX10_host ∈ lw_g := mg (List.mem_of_getElem? (i := 417) (by decide +kernel)) rfl
theorem wm418 : Cond.selects RX10 yX10_host yX10_host ∈ lw_g := mg (List.mem_of_getElem? (i := 418) (by decide +kernel)) rfl
theorem wm419 : Cond.code yX10_host cX10_host 4 (some .int) ∈ lw_g := mg (List.mem_of_getElem? (i := 419) (by decide +kernel)) rfl
theorem wm420 : Cond.methodLink RX10 80 yX2_append ∈ lw_g := mg (List.mem_of_getElem? (i := 420) (by decide +kernel)) rfl
theorem wm421 : Cond.instanceMethod yX2_append ∈ lw_g := mg (List.mem_of_getElem? (i := 421) (by decide +kernel)) rfl
theorem wm422 : Cond.selects RX2 yX2_append yX2_append ∈ lw_g := mg (List.mem_of_getElem? (i := 422) (by decide +kernel)) rfl
theorem wm423 : Cond.code yX2_append cX2_append 2 (some .int) ∈ lw_g := mg (List.mem_of_getElem? (i := 423) (by decide +kernel)) rfl
theorem wm424 : Cond.methodLink RL 33 yX10_rule ∈ lw_g := mg (List.mem_of_getElem? (i := 424) (by decide +kernel)) rfl
theorem wm425 : Cond.instanceMethod yX10_rule ∈ lw_g := mg (List.mem_of_getElem? (i := 425) (by decide +kernel)) rfl
theorem wm426 : Cond.selects RX10 yX10_rule yX10_rule ∈ lw_g := mg (List.mem_of_getElem? (i := 426) (by decide +kernel)) rfl
theorem wm427 : Cond.code yX10_rule cX10_rule 7 (some .int) ∈ lw_g := mg (List.mem_of_getElem? (i := 427) (by decide +kernel)) rfl
theorem wm428 : Cond.methodLink RX10 93 yX7_redirectTo ∈ lw_g := mg (List.mem_of_getElem? (i := 428) (by decide +kernel)) rfl
theorem wm429 : Cond.instanceMethod yX7_redirectTo ∈ lw_g := mg (List.mem_of_getElem? (i := 429) (by decide +kernel)) rfl
theorem wm430 : Cond.selects RX7 yX7_redirectTo yX7_redirectTo ∈ lw_g := mg (List.mem_of_getElem? (i := 430) (by decide +kernel)) rfl
theorem wm431 : Cond.code yX7_redirectTo cX7_redirectTo 2 (some .int) ∈ lw_g := mg (List.mem_of_getElem? (i := 431) (by decide +kernel)) rfl
theorem wm432 : Cond.methodLink RX10 98 yX10_hasLength ∈ lw_g := mg (List.mem_of_getElem? (i := 432) (by decide +kernel)) rfl
theorem wm433 : Cond.static yX10_hasLength ∈ lw_g := mg (List.mem_of_getElem? (i := 433) (by decide +kernel)) rfl
theorem wm434 : Cond.code yX10_hasLength cX10_hasLength 1 (some .boolean) ∈ lw_g := mg (List.mem_of_getElem? (i := 434) (by decide +kernel)) rfl
theorem wm435 : Cond.methodLink RX10 101 yX7_append ∈ lw_g := mg (List.mem_of_getElem? (i := 435) (by decide +kernel)) rfl
theorem wm436 : Cond.instanceMethod yX7_append ∈ lw_g := mg (List.mem_of_getElem? (i := 436) (by decide +kernel)) rfl
theorem wm437 : Cond.selects RX7 yX7_append yX7_append ∈ lw_g := mg (List.mem_of_getElem? (i := 437) (by decide +kernel)) rfl
theorem wm438 : Cond.code yX7_append cX7_append 5 (some .int) ∈ lw_g := mg (List.mem_of_getElem? (i := 438) (by decide +kernel)) rfl
theorem wm439 : Cond.methodLink RL 38 yX10_key ∈ lw_g := mg (List.mem_of_getElem? (i := 439) (by decide +kernel)) rfl
theorem wm440 : Cond.instanceMethod yX10_key ∈ lw_g := mg (List.mem_of_getElem? (i := 440) (by decide +kernel)) rfl
theorem wm441 : Cond.selects RX10 yX10_key yX10_key ∈ lw_g := mg (List.mem_of_getElem? (i := 441) (by decide +kernel)) rfl
theorem wm442 : Cond.code yX10_key cX10_key 4 (some .boolean) ∈ lw_g := mg (List.mem_of_getElem? (i := 442) (by decide +kernel)) rfl
theorem wm443 : Cond.methodLink RX10 104 yX10_isSelector ∈ lw_g := mg (List.mem_of_getElem? (i := 443) (by decide +kernel)) rfl
theorem wm444 : Cond.static yX10_isSelector ∈ lw_g := mg (List.mem_of_getElem? (i := 444) (by decide +kernel)) rfl
theorem wm445 : Cond.code yX10_isSelector cX10_isSelector 1 (some .boolean) ∈ lw_g := mg (List.mem_of_getElem? (i := 445) (by decide +kernel)) rfl
theorem wm446 : Cond.constant RX10 107 (1000000) ∈ lw_g := mg (List.mem_of_getElem? (i := 446) (by decide +kernel)) rfl
theorem wm447 : Cond.methodLink RL 43 yX10_policy ∈ lw_g := mg (List.mem_of_getElem? (i := 447) (by decide +kernel)) rfl
theorem wm448 : Cond.instanceMethod yX10_policy ∈ lw_g := mg (List.mem_of_getElem? (i := 448) (by decide +kernel)) rfl
theorem wm449 : Cond.selects RX10 yX10_policy yX10_policy ∈ lw_g := mg (List.mem_of_getElem? (i := 449) (by decide +kernel)) rfl
theorem wm450 : Cond.code yX10_policy cX10_policy 7 (some .boolean) ∈ lw_g := mg (List.mem_of_getElem? (i := 450) (by decide +kernel)) rfl
theorem wm451 : Cond.methodLink RX10 118 yX5_fill ∈ lw_g := mg (List.mem_of_getElem? (i := 451) (by decide +kernel)) rfl
theorem wm452 : Cond.instanceMethod yX5_fill ∈ lw_g := mg (List.mem_of_getElem? (i := 452) (by decide +kernel)) rfl
theorem wm453 : Cond.selects RX5 yX5_fill yX5_fill ∈ lw_g := mg (List.mem_of_getElem? (i := 453) (by decide +kernel)) rfl
theorem wm454 : Cond.code yX5_fill cX5_fill 5 none ∈ lw_g := mg (List.mem_of_getElem? (i := 454) (by decide +kernel)) rfl
theorem wm455 : Cond.methodLink RL 48 yX10_mail ∈ lw_g := mg (List.mem_of_getElem? (i := 455) (by decide +kernel)) rfl
theorem wm456 : Cond.instanceMethod yX10_mail ∈ lw_g := mg (List.mem_of_getElem? (i := 456) (by decide +kernel)) rfl
theorem wm457 : Cond.selects RX10 yX10_mail yX10_mail ∈ lw_g := mg (List.mem_of_getElem? (i := 457) (by decide +kernel)) rfl
theorem wm458 : Cond.code yX10_mail cX10_mail 4 (some .boolean) ∈ lw_g := mg (List.mem_of_getElem? (i := 458) (by decide +kernel)) rfl
theorem wm459 : Cond.methodLink RX10 122 yX4_begin ∈ lw_g := mg (List.mem_of_getElem? (i := 459) (by decide +kernel)) rfl
theorem wm460 : Cond.instanceMethod yX4_begin ∈ lw_g := mg (List.mem_of_getElem? (i := 460) (by decide +kernel)) rfl
theorem wm461 : Cond.selects RX4 yX4_begin yX4_begin ∈ lw_g := mg (List.mem_of_getElem? (i := 461) (by decide +kernel)) rfl
theorem wm462 : Cond.code yX4_begin cX4_begin 4 none ∈ lw_g := mg (List.mem_of_getElem? (i := 462) (by decide +kernel)) rfl
theorem wm463 : Cond.methodLink RL 52 yX10_header ∈ lw_g := mg (List.mem_of_getElem? (i := 463) (by decide +kernel)) rfl
theorem wm464 : Cond.instanceMethod yX10_header ∈ lw_g := mg (List.mem_of_getElem? (i := 464) (by decide +kernel)) rfl
theorem wm465 : Cond.selects RX10 yX10_header yX10_header ∈ lw_g := mg (List.mem_of_getElem? (i := 465) (by decide +kernel)) rfl
theorem wm466 : Cond.code yX10_header cX10_header 2 (some .int) ∈ lw_g := mg (List.mem_of_getElem? (i := 466) (by decide +kernel)) rfl
theorem wm467 : Cond.methodLink RX10 127 yX4_appendHeader ∈ lw_g := mg (List.mem_of_getElem? (i := 467) (by decide +kernel)) rfl
theorem wm468 : Cond.instanceMethod yX4_appendHeader ∈ lw_g := mg (List.mem_of_getElem? (i := 468) (by decide +kernel)) rfl
theorem wm469 : Cond.selects RX4 yX4_appendHeader yX4_appendHeader ∈ lw_g := mg (List.mem_of_getElem? (i := 469) (by decide +kernel)) rfl
theorem wm470 : Cond.code yX4_appendHeader cX4_appendHeader 2 (some .int) ∈ lw_g := mg (List.mem_of_getElem? (i := 470) (by decide +kernel)) rfl
theorem wm471 : Cond.methodLink RL 58 yX10_type ∈ lw_g := mg (List.mem_of_getElem? (i := 471) (by decide +kernel)) rfl
theorem wm472 : Cond.instanceMethod yX10_type ∈ lw_g := mg (List.mem_of_getElem? (i := 472) (by decide +kernel)) rfl
theorem wm473 : Cond.selects RX10 yX10_type yX10_type ∈ lw_g := mg (List.mem_of_getElem? (i := 473) (by decide +kernel)) rfl
theorem wm474 : Cond.code yX10_type cX10_type 6 (some .int) ∈ lw_g := mg (List.mem_of_getElem? (i := 474) (by decide +kernel)) rfl
theorem wm475 : Cond.methodLink RX10 130 yX4_partAt ∈ lw_g := mg (List.mem_of_getElem? (i := 475) (by decide +kernel)) rfl
theorem wm476 : Cond.instanceMethod yX4_partAt ∈ lw_g := mg (List.mem_of_getElem? (i := 476) (by decide +kernel)) rfl
theorem wm477 : Cond.selects RX4 yX4_partAt yX4_partAt ∈ lw_g := mg (List.mem_of_getElem? (i := 477) (by decide +kernel)) rfl
theorem wm478 : Cond.code yX4_partAt cX4_partAt 2 (some (.object "MailArbiter$Text")) ∈ lw_g := mg (List.mem_of_getElem? (i := 478) (by decide +kernel)) rfl
theorem wm479 : Cond.methodLinkNest RX4 71 yX10_isWithin RX10 ∈ lw_tbl := List.mem_of_getElem? (i := 479) (by decide +kernel)
theorem wm480 : Cond.methodLink RX10 134 yX10_areAllowed ∈ lw_g := mg (List.mem_of_getElem? (i := 480) (by decide +kernel)) rfl
theorem wm481 : Cond.static yX10_areAllowed ∈ lw_g := mg (List.mem_of_getElem? (i := 481) (by decide +kernel)) rfl
theorem wm482 : Cond.code yX10_areAllowed cX10_areAllowed 7 (some .boolean) ∈ lw_g := mg (List.mem_of_getElem? (i := 482) (by decide +kernel)) rfl
theorem wm483 : Cond.methodLink RX10 237 yX10_byteAt ∈ lw_g := mg (List.mem_of_getElem? (i := 483) (by decide +kernel)) rfl
theorem wm484 : Cond.static yX10_byteAt ∈ lw_g := mg (List.mem_of_getElem? (i := 484) (by decide +kernel)) rfl
theorem wm485 : Cond.code yX10_byteAt cX10_byteAt 3 (some .int) ∈ lw_g := mg (List.mem_of_getElem? (i := 485) (by decide +kernel)) rfl
theorem wm486 : Cond.methodLink RX10 138 yX9_appendBytes ∈ lw_g := mg (List.mem_of_getElem? (i := 486) (by decide +kernel)) rfl
theorem wm487 : Cond.instanceMethod yX9_appendBytes ∈ lw_g := mg (List.mem_of_getElem? (i := 487) (by decide +kernel)) rfl
theorem wm488 : Cond.selects RX9 yX9_appendBytes yX9_appendBytes ∈ lw_g := mg (List.mem_of_getElem? (i := 488) (by decide +kernel)) rfl
theorem wm489 : Cond.code yX9_appendBytes cX9_appendBytes 5 (some .int) ∈ lw_g := mg (List.mem_of_getElem? (i := 489) (by decide +kernel)) rfl
theorem wm490 : Cond.methodLinkNest RX9 19 yX10_byteAt RX10 ∈ lw_tbl := List.mem_of_getElem? (i := 490) (by decide +kernel)
theorem wm491 : Cond.methodLink RX9 23 yX9_append ∈ lw_g := mg (List.mem_of_getElem? (i := 491) (by decide +kernel)) rfl
theorem wm493 : Cond.instanceMethod yX9_append ∈ lw_g := mg (List.mem_of_getElem? (i := 493) (by decide +kernel)) rfl
theorem wm494 : Cond.code yX9_append cX9_append 2 none ∈ lw_g := mg (List.mem_of_getElem? (i := 494) (by decide +kernel)) rfl
theorem wm495 : Cond.methodLink RL 63 yX10_length ∈ lw_g := mg (List.mem_of_getElem? (i := 495) (by decide +kernel)) rfl
theorem wm496 : Cond.instanceMethod yX10_length ∈ lw_g := mg (List.mem_of_getElem? (i := 496) (by decide +kernel)) rfl
theorem wm497 : Cond.selects RX10 yX10_length yX10_length ∈ lw_g := mg (List.mem_of_getElem? (i := 497) (by decide +kernel)) rfl
theorem wm498 : Cond.code yX10_length cX10_length 4 (some .int) ∈ lw_g := mg (List.mem_of_getElem? (i := 498) (by decide +kernel)) rfl
theorem wm499 : Cond.methodLink RX10 144 yX4_bodyForm ∈ lw_g := mg (List.mem_of_getElem? (i := 499) (by decide +kernel)) rfl
theorem wm500 : Cond.instanceMethod yX4_bodyForm ∈ lw_g := mg (List.mem_of_getElem? (i := 500) (by decide +kernel)) rfl
theorem wm501 : Cond.selects RX4 yX4_bodyForm yX4_bodyForm ∈ lw_g := mg (List.mem_of_getElem? (i := 501) (by decide +kernel)) rfl
theorem wm502 : Cond.code yX4_bodyForm cX4_bodyForm 2 (some (.object "MailArbiter$Text")) ∈ lw_g := mg (List.mem_of_getElem? (i := 502) (by decide +kernel)) rfl
theorem wm503 : Cond.methodLink RX4 75 yX9_becomeRelaxed ∈ lw_g := mg (List.mem_of_getElem? (i := 503) (by decide +kernel)) rfl
theorem wm504 : Cond.instanceMethod yX9_becomeRelaxed ∈ lw_g := mg (List.mem_of_getElem? (i := 504) (by decide +kernel)) rfl
theorem wm505 : Cond.selects RX9 yX9_becomeRelaxed yX9_becomeRelaxed ∈ lw_g := mg (List.mem_of_getElem? (i := 505) (by decide +kernel)) rfl
theorem wm506 : Cond.code yX9_becomeRelaxed cX9_becomeRelaxed 6 none ∈ lw_g := mg (List.mem_of_getElem? (i := 506) (by decide +kernel)) rfl
theorem wm507 : Cond.methodLinkNest RX9 27 yX10_isBlank RX10 ∈ lw_tbl := List.mem_of_getElem? (i := 507) (by decide +kernel)
theorem wm508 : Cond.static yX10_isBlank ∈ lw_g := mg (List.mem_of_getElem? (i := 508) (by decide +kernel)) rfl
theorem wm509 : Cond.code yX10_isBlank cX10_isBlank 1 (some .boolean) ∈ lw_g := mg (List.mem_of_getElem? (i := 509) (by decide +kernel)) rfl
theorem wm510 : Cond.methodLink RX4 79 yX9_becomeSimple ∈ lw_g := mg (List.mem_of_getElem? (i := 510) (by decide +kernel)) rfl
theorem wm511 : Cond.instanceMethod yX9_becomeSimple ∈ lw_g := mg (List.mem_of_getElem? (i := 511) (by decide +kernel)) rfl
theorem wm512 : Cond.selects RX9 yX9_becomeSimple yX9_becomeSimple ∈ lw_g := mg (List.mem_of_getElem? (i := 512) (by decide +kernel)) rfl
theorem wm513 : Cond.code yX9_becomeSimple cX9_becomeSimple 3 none ∈ lw_g := mg (List.mem_of_getElem? (i := 513) (by decide +kernel)) rfl
theorem wm514 : Cond.methodLink RX4 83 yX9_endWithOneLineEnd ∈ lw_g := mg (List.mem_of_getElem? (i := 514) (by decide +kernel)) rfl
theorem wm515 : Cond.instanceMethod yX9_endWithOneLineEnd ∈ lw_g := mg (List.mem_of_getElem? (i := 515) (by decide +kernel)) rfl
theorem wm516 : Cond.selects RX9 yX9_endWithOneLineEnd yX9_endWithOneLineEnd ∈ lw_g := mg (List.mem_of_getElem? (i := 516) (by decide +kernel)) rfl
theorem wm517 : Cond.code yX9_endWithOneLineEnd cX9_endWithOneLineEnd 1 none ∈ lw_g := mg (List.mem_of_getElem? (i := 517) (by decide +kernel)) rfl
theorem wm518 : Cond.methodLink RX10 151 yX4_headerForm ∈ lw_g := mg (List.mem_of_getElem? (i := 518) (by decide +kernel)) rfl
theorem wm519 : Cond.instanceMethod yX4_headerForm ∈ lw_g := mg (List.mem_of_getElem? (i := 519) (by decide +kernel)) rfl
theorem wm520 : Cond.selects RX4 yX4_headerForm yX4_headerForm ∈ lw_g := mg (List.mem_of_getElem? (i := 520) (by decide +kernel)) rfl
theorem wm521 : Cond.code yX4_headerForm cX4_headerForm 3 (some (.object "MailArbiter$Text")) ∈ lw_g := mg (List.mem_of_getElem? (i := 521) (by decide +kernel)) rfl
theorem wm522 : Cond.methodLink RL 67 yX10_sign ∈ lw_g := mg (List.mem_of_getElem? (i := 522) (by decide +kernel)) rfl
theorem wm523 : Cond.instanceMethod yX10_sign ∈ lw_g := mg (List.mem_of_getElem? (i := 523) (by decide +kernel)) rfl
theorem wm524 : Cond.selects RX10 yX10_sign yX10_sign ∈ lw_g := mg (List.mem_of_getElem? (i := 524) (by decide +kernel)) rfl
theorem wm525 : Cond.code yX10_sign cX10_sign 9 (some .int) ∈ lw_g := mg (List.mem_of_getElem? (i := 525) (by decide +kernel)) rfl
theorem wm526 : Cond.methodLink RX10 155 yX10_hasKey ∈ lw_g := mg (List.mem_of_getElem? (i := 526) (by decide +kernel)) rfl
theorem wm528 : Cond.instanceMethod yX10_hasKey ∈ lw_g := mg (List.mem_of_getElem? (i := 528) (by decide +kernel)) rfl
theorem wm529 : Cond.code yX10_hasKey cX10_hasKey 3 (some .boolean) ∈ lw_g := mg (List.mem_of_getElem? (i := 529) (by decide +kernel)) rfl
theorem wm530 : Cond.constant RX10 159 (100000) ∈ lw_g := mg (List.mem_of_getElem? (i := 530) (by decide +kernel)) rfl
theorem wm531 : Cond.methodLink RX10 160 yX4_nextSignature ∈ lw_g := mg (List.mem_of_getElem? (i := 531) (by decide +kernel)) rfl
theorem wm532 : Cond.instanceMethod yX4_nextSignature ∈ lw_g := mg (List.mem_of_getElem? (i := 532) (by decide +kernel)) rfl
theorem wm533 : Cond.selects RX4 yX4_nextSignature yX4_nextSignature ∈ lw_g := mg (List.mem_of_getElem? (i := 533) (by decide +kernel)) rfl
theorem wm534 : Cond.code yX4_nextSignature cX4_nextSignature 1 (some (.object "MailArbiter$Signature")) ∈ lw_g := mg (List.mem_of_getElem? (i := 534) (by decide +kernel)) rfl
theorem wm535 : Cond.methodLink RX10 164 yX8_fill ∈ lw_g := mg (List.mem_of_getElem? (i := 535) (by decide +kernel)) rfl
theorem wm536 : Cond.instanceMethod yX8_fill ∈ lw_g := mg (List.mem_of_getElem? (i := 536) (by decide +kernel)) rfl
theorem wm537 : Cond.selects RX8 yX8_fill yX8_fill ∈ lw_g := mg (List.mem_of_getElem? (i := 537) (by decide +kernel)) rfl
theorem wm538 : Cond.code yX8_fill cX8_fill 7 none ∈ lw_g := mg (List.mem_of_getElem? (i := 538) (by decide +kernel)) rfl
theorem wm539 : Cond.methodLink RX10 169 yX4_seal ∈ lw_g := mg (List.mem_of_getElem? (i := 539) (by decide +kernel)) rfl
theorem wm540 : Cond.instanceMethod yX4_seal ∈ lw_g := mg (List.mem_of_getElem? (i := 540) (by decide +kernel)) rfl
theorem wm541 : Cond.selects RX4 yX4_seal yX4_seal ∈ lw_g := mg (List.mem_of_getElem? (i := 541) (by decide +kernel)) rfl
theorem wm542 : Cond.code yX4_seal cX4_seal 3 none ∈ lw_g := mg (List.mem_of_getElem? (i := 542) (by decide +kernel)) rfl
theorem wm543 : Cond.methodLink RX4 108 yX4_bodyDigestFor ∈ lw_g := mg (List.mem_of_getElem? (i := 543) (by decide +kernel)) rfl
theorem wm544 : Cond.instanceMethod yX4_bodyDigestFor ∈ lw_g := mg (List.mem_of_getElem? (i := 544) (by decide +kernel)) rfl
theorem wm545 : Cond.selects RX4 yX4_bodyDigestFor yX4_bodyDigestFor ∈ lw_g := mg (List.mem_of_getElem? (i := 545) (by decide +kernel)) rfl
theorem wm546 : Cond.code yX4_bodyDigestFor cX4_bodyDigestFor 3 (some .int) ∈ lw_g := mg (List.mem_of_getElem? (i := 546) (by decide +kernel)) rfl
theorem wm547 : Cond.methodLink RX4 121 yX8_isBodyRelaxed ∈ lw_g := mg (List.mem_of_getElem? (i := 547) (by decide +kernel)) rfl
theorem wm548 : Cond.instanceMethod yX8_isBodyRelaxed ∈ lw_g := mg (List.mem_of_getElem? (i := 548) (by decide +kernel)) rfl
theorem wm549 : Cond.selects RX8 yX8_isBodyRelaxed yX8_isBodyRelaxed ∈ lw_g := mg (List.mem_of_getElem? (i := 549) (by decide +kernel)) rfl
theorem wm550 : Cond.code yX8_isBodyRelaxed cX8_isBodyRelaxed 1 (some .boolean) ∈ lw_g := mg (List.mem_of_getElem? (i := 550) (by decide +kernel)) rfl
theorem wm551 : Cond.methodLink RX4 125 yX4_bodyForm ∈ lw_g := mg (List.mem_of_getElem? (i := 551) (by decide +kernel)) rfl
theorem wm552 : Cond.methodLinkNest RX4 132 yX10_mixText RX10 ∈ lw_tbl := List.mem_of_getElem? (i := 552) (by decide +kernel)
theorem wm553 : Cond.static yX10_mixText ∈ lw_g := mg (List.mem_of_getElem? (i := 553) (by decide +kernel)) rfl
theorem wm554 : Cond.code yX10_mixText cX10_mixText 7 (some .long) ∈ lw_g := mg (List.mem_of_getElem? (i := 554) (by decide +kernel)) rfl
theorem wm555 : Cond.methodLink RX10 245 yX10_mix ∈ lw_g := mg (List.mem_of_getElem? (i := 555) (by decide +kernel)) rfl
theorem wm556 : Cond.static yX10_mix ∈ lw_g := mg (List.mem_of_getElem? (i := 556) (by decide +kernel)) rfl
theorem wm557 : Cond.code yX10_mix cX10_mix 5 (some .long) ∈ lw_g := mg (List.mem_of_getElem? (i := 557) (by decide +kernel)) rfl
theorem wm558 : Cond.constantLong RX10 240 (-7046029254386353131) ∈ lw_g := mg (List.mem_of_getElem? (i := 558) (by decide +kernel)) rfl
theorem wm559 : Cond.methodLinkNest RX4 136 yX10_digestOf RX10 ∈ lw_tbl := List.mem_of_getElem? (i := 559) (by decide +kernel)
theorem wm560 : Cond.static yX10_digestOf ∈ lw_g := mg (List.mem_of_getElem? (i := 560) (by decide +kernel)) rfl
theorem wm561 : Cond.code yX10_digestOf cX10_digestOf 2 (some .int) ∈ lw_g := mg (List.mem_of_getElem? (i := 561) (by decide +kernel)) rfl
theorem wm562 : Cond.methodLink RX4 115 yX4_sealFor ∈ lw_g := mg (List.mem_of_getElem? (i := 562) (by decide +kernel)) rfl
theorem wm563 : Cond.instanceMethod yX4_sealFor ∈ lw_g := mg (List.mem_of_getElem? (i := 563) (by decide +kernel)) rfl
theorem wm564 : Cond.selects RX4 yX4_sealFor yX4_sealFor ∈ lw_g := mg (List.mem_of_getElem? (i := 564) (by decide +kernel)) rfl
theorem wm565 : Cond.code yX4_sealFor cX4_sealFor 7 (some .int) ∈ lw_g := mg (List.mem_of_getElem? (i := 565) (by decide +kernel)) rfl
theorem wm566 : Cond.methodLinkNest RX4 140 yX10_mix RX10 ∈ lw_tbl := List.mem_of_getElem? (i := 566) (by decide +kernel)
theorem wm567 : Cond.methodLink RX4 158 yX8_hasName ∈ lw_g := mg (List.mem_of_getElem? (i := 567) (by decide +kernel)) rfl
theorem wm568 : Cond.instanceMethod yX8_hasName ∈ lw_g := mg (List.mem_of_getElem? (i := 568) (by decide +kernel)) rfl
theorem wm569 : Cond.selects RX8 yX8_hasName yX8_hasName ∈ lw_g := mg (List.mem_of_getElem? (i := 569) (by decide +kernel)) rfl
theorem wm570 : Cond.code yX8_hasName cX8_hasName 2 (some .boolean) ∈ lw_g := mg (List.mem_of_getElem? (i := 570) (by decide +kernel)) rfl
theorem wm571 : Cond.methodLink RX4 162 yX8_isHeaderRelaxed ∈ lw_g := mg (List.mem_of_getElem? (i := 571) (by decide +kernel)) rfl
theorem wm572 : Cond.instanceMethod yX8_isHeaderRelaxed ∈ lw_g := mg (List.mem_of_getElem? (i := 572) (by decide +kernel)) rfl
theorem wm573 : Cond.selects RX8 yX8_isHeaderRelaxed yX8_isHeaderRelaxed ∈ lw_g := mg (List.mem_of_getElem? (i := 573) (by decide +kernel)) rfl
theorem wm574 : Cond.code yX8_isHeaderRelaxed cX8_isHeaderRelaxed 1 (some .boolean) ∈ lw_g := mg (List.mem_of_getElem? (i := 574) (by decide +kernel)) rfl
theorem wm575 : Cond.methodLink RX4 165 yX4_headerForm ∈ lw_g := mg (List.mem_of_getElem? (i := 575) (by decide +kernel)) rfl
theorem wm576 : Cond.methodLink RL 71 yX10_spoil ∈ lw_g := mg (List.mem_of_getElem? (i := 576) (by decide +kernel)) rfl
theorem wm577 : Cond.instanceMethod yX10_spoil ∈ lw_g := mg (List.mem_of_getElem? (i := 577) (by decide +kernel)) rfl
theorem wm578 : Cond.selects RX10 yX10_spoil yX10_spoil ∈ lw_g := mg (List.mem_of_getElem? (i := 578) (by decide +kernel)) rfl
theorem wm579 : Cond.code yX10_spoil cX10_spoil 3 (some .boolean) ∈ lw_g := mg (List.mem_of_getElem? (i := 579) (by decide +kernel)) rfl
theorem wm580 : Cond.methodLink RX10 176 yX10_isSignature ∈ lw_g := mg (List.mem_of_getElem? (i := 580) (by decide +kernel)) rfl
theorem wm582 : Cond.instanceMethod yX10_isSignature ∈ lw_g := mg (List.mem_of_getElem? (i := 582) (by decide +kernel)) rfl
theorem wm583 : Cond.code yX10_isSignature cX10_isSignature 2 (some .boolean) ∈ lw_g := mg (List.mem_of_getElem? (i := 583) (by decide +kernel)) rfl
theorem wm584 : Cond.methodLink RL 76 yX10_signature ∈ lw_g := mg (List.mem_of_getElem? (i := 584) (by decide +kernel)) rfl
theorem wm585 : Cond.instanceMethod yX10_signature ∈ lw_g := mg (List.mem_of_getElem? (i := 585) (by decide +kernel)) rfl
theorem wm586 : Cond.selects RX10 yX10_signature yX10_signature ∈ lw_g := mg (List.mem_of_getElem? (i := 586) (by decide +kernel)) rfl
theorem wm587 : Cond.code yX10_signature cX10_signature 2 (some .int) ∈ lw_g := mg (List.mem_of_getElem? (i := 587) (by decide +kernel)) rfl
theorem wm588 : Cond.methodLink RX10 185 yX10_checkSignature ∈ lw_g := mg (List.mem_of_getElem? (i := 588) (by decide +kernel)) rfl
theorem wm590 : Cond.instanceMethod yX10_checkSignature ∈ lw_g := mg (List.mem_of_getElem? (i := 590) (by decide +kernel)) rfl
theorem wm591 : Cond.code yX10_checkSignature cX10_checkSignature 5 (some .int) ∈ lw_g := mg (List.mem_of_getElem? (i := 591) (by decide +kernel)) rfl
theorem wm592 : Cond.methodLink RX10 261 yX8_isBodyRelaxed ∈ lw_g := mg (List.mem_of_getElem? (i := 592) (by decide +kernel)) rfl
theorem wm593 : Cond.methodLink RX10 268 yX4_bodyDigestFor ∈ lw_g := mg (List.mem_of_getElem? (i := 593) (by decide +kernel)) rfl
theorem wm594 : Cond.methodLink RX10 271 yX4_sealFor ∈ lw_g := mg (List.mem_of_getElem? (i := 594) (by decide +kernel)) rfl
theorem wm595 : Cond.methodLink RL 80 yX10_sender ∈ lw_g := mg (List.mem_of_getElem? (i := 595) (by decide +kernel)) rfl
theorem wm596 : Cond.instanceMethod yX10_sender ∈ lw_g := mg (List.mem_of_getElem? (i := 596) (by decide +kernel)) rfl
theorem wm597 : Cond.selects RX10 yX10_sender yX10_sender ∈ lw_g := mg (List.mem_of_getElem? (i := 597) (by decide +kernel)) rfl
theorem wm598 : Cond.code yX10_sender cX10_sender 1 (some .int) ∈ lw_g := mg (List.mem_of_getElem? (i := 598) (by decide +kernel)) rfl
theorem wm599 : Cond.methodLink RX10 195 yX0_start ∈ lw_g := mg (List.mem_of_getElem? (i := 599) (by decide +kernel)) rfl
theorem wm600 : Cond.instanceMethod yX0_start ∈ lw_g := mg (List.mem_of_getElem? (i := 600) (by decide +kernel)) rfl
theorem wm601 : Cond.selects RX0 yX0_start yX0_start ∈ lw_g := mg (List.mem_of_getElem? (i := 601) (by decide +kernel)) rfl
theorem wm602 : Cond.code yX0_start cX0_start 4 (some .int) ∈ lw_g := mg (List.mem_of_getElem? (i := 602) (by decide +kernel)) rfl
theorem wm603 : Cond.methodLink RX0 18 yX0_resultBy ∈ lw_g := mg (List.mem_of_getElem? (i := 603) (by decide +kernel)) rfl
theorem wm605 : Cond.instanceMethod yX0_resultBy ∈ lw_g := mg (List.mem_of_getElem? (i := 605) (by decide +kernel)) rfl
theorem wm606 : Cond.code yX0_resultBy cX0_resultBy 7 (some .int) ∈ lw_g := mg (List.mem_of_getElem? (i := 606) (by decide +kernel)) rfl
theorem wm607 : Cond.methodLink RX0 40 yX0_outcomeOf ∈ lw_g := mg (List.mem_of_getElem? (i := 607) (by decide +kernel)) rfl
theorem wm609 : Cond.instanceMethod yX0_outcomeOf ∈ lw_g := mg (List.mem_of_getElem? (i := 609) (by decide +kernel)) rfl
theorem wm610 : Cond.code yX0_outcomeOf cX0_outcomeOf 9 (some .int) ∈ lw_g := mg (List.mem_of_getElem? (i := 610) (by decide +kernel)) rfl
theorem wm611 : Cond.methodLinkNest RX0 67 yX10_agree RX10 ∈ lw_tbl := List.mem_of_getElem? (i := 611) (by decide +kernel)
theorem wm612 : Cond.static yX10_agree ∈ lw_g := mg (List.mem_of_getElem? (i := 612) (by decide +kernel)) rfl
theorem wm613 : Cond.code yX10_agree cX10_agree 3 (some .boolean) ∈ lw_g := mg (List.mem_of_getElem? (i := 613) (by decide +kernel)) rfl
theorem wm614 : Cond.methodLink RX0 71 yX0_matchIf ∈ lw_g := mg (List.mem_of_getElem? (i := 614) (by decide +kernel)) rfl
theorem wm615 : Cond.static yX0_matchIf ∈ lw_g := mg (List.mem_of_getElem? (i := 615) (by decide +kernel)) rfl
theorem wm616 : Cond.code yX0_matchIf cX0_matchIf 1 (some .int) ∈ lw_g := mg (List.mem_of_getElem? (i := 616) (by decide +kernel)) rfl
theorem wm617 : Cond.methodLink RX0 54 yX0_isLookupTooMany ∈ lw_g := mg (List.mem_of_getElem? (i := 617) (by decide +kernel)) rfl
theorem wm619 : Cond.instanceMethod yX0_isLookupTooMany ∈ lw_g := mg (List.mem_of_getElem? (i := 619) (by decide +kernel)) rfl
theorem wm620 : Cond.code yX0_isLookupTooMany cX0_isLookupTooMany 1 (some .boolean) ∈ lw_g := mg (List.mem_of_getElem? (i := 620) (by decide +kernel)) rfl
theorem wm621 : Cond.methodLink RX0 75 yX0_including ∈ lw_g := mg (List.mem_of_getElem? (i := 621) (by decide +kernel)) rfl
theorem wm623 : Cond.instanceMethod yX0_including ∈ lw_g := mg (List.mem_of_getElem? (i := 623) (by decide +kernel)) rfl
theorem wm624 : Cond.code yX0_including cX0_including 6 (some .int) ∈ lw_g := mg (List.mem_of_getElem? (i := 624) (by decide +kernel)) rfl
theorem wm625 : Cond.methodLink RX0 88 yX0_empty ∈ lw_g := mg (List.mem_of_getElem? (i := 625) (by decide +kernel)) rfl
theorem wm627 : Cond.instanceMethod yX0_empty ∈ lw_g := mg (List.mem_of_getElem? (i := 627) (by decide +kernel)) rfl
theorem wm628 : Cond.code yX0_empty cX0_empty 1 (some .int) ∈ lw_g := mg (List.mem_of_getElem? (i := 628) (by decide +kernel)) rfl
theorem wm629 : Cond.methodLink RX0 92 yX0_exchangers ∈ lw_g := mg (List.mem_of_getElem? (i := 629) (by decide +kernel)) rfl
theorem wm631 : Cond.instanceMethod yX0_exchangers ∈ lw_g := mg (List.mem_of_getElem? (i := 631) (by decide +kernel)) rfl
theorem wm632 : Cond.code yX0_exchangers cX0_exchangers 7 (some .int) ∈ lw_g := mg (List.mem_of_getElem? (i := 632) (by decide +kernel)) rfl
theorem wm633 : Cond.methodLink RX0 95 yX2_holdOneLike ∈ lw_g := mg (List.mem_of_getElem? (i := 633) (by decide +kernel)) rfl
theorem wm634 : Cond.instanceMethod yX2_holdOneLike ∈ lw_g := mg (List.mem_of_getElem? (i := 634) (by decide +kernel)) rfl
theorem wm635 : Cond.selects RX2 yX2_holdOneLike yX2_holdOneLike ∈ lw_g := mg (List.mem_of_getElem? (i := 635) (by decide +kernel)) rfl
theorem wm636 : Cond.code yX2_holdOneLike cX2_holdOneLike 4 (some .boolean) ∈ lw_g := mg (List.mem_of_getElem? (i := 636) (by decide +kernel)) rfl
theorem wm637 : Cond.methodLinkNest RX2 19 yX10_agree RX10 ∈ lw_tbl := List.mem_of_getElem? (i := 637) (by decide +kernel)
theorem wm638 : Cond.methodLink RX0 51 yX0_redirected ∈ lw_g := mg (List.mem_of_getElem? (i := 638) (by decide +kernel)) rfl
theorem wm640 : Cond.instanceMethod yX0_redirected ∈ lw_g := mg (List.mem_of_getElem? (i := 640) (by decide +kernel)) rfl
theorem wm641 : Cond.code yX0_redirected cX0_redirected 5 (some .int) ∈ lw_g := mg (List.mem_of_getElem? (i := 641) (by decide +kernel)) rfl
theorem wm642 : Cond.methodLink RL 85 yX10_counted ∈ lw_g := mg (List.mem_of_getElem? (i := 642) (by decide +kernel)) rfl
theorem wm643 : Cond.instanceMethod yX10_counted ∈ lw_g := mg (List.mem_of_getElem? (i := 643) (by decide +kernel)) rfl
theorem wm644 : Cond.selects RX10 yX10_counted yX10_counted ∈ lw_g := mg (List.mem_of_getElem? (i := 644) (by decide +kernel)) rfl
theorem wm645 : Cond.code yX10_counted cX10_counted 2 (some .int) ∈ lw_g := mg (List.mem_of_getElem? (i := 645) (by decide +kernel)) rfl
theorem wm646 : Cond.methodLink RL 89 yX10_chain ∈ lw_g := mg (List.mem_of_getElem? (i := 646) (by decide +kernel)) rfl
theorem wm647 : Cond.instanceMethod yX10_chain ∈ lw_g := mg (List.mem_of_getElem? (i := 647) (by decide +kernel)) rfl
theorem wm648 : Cond.selects RX10 yX10_chain yX10_chain ∈ lw_g := mg (List.mem_of_getElem? (i := 648) (by decide +kernel)) rfl
theorem wm649 : Cond.code yX10_chain cX10_chain 1 (some .int) ∈ lw_g := mg (List.mem_of_getElem? (i := 649) (by decide +kernel)) rfl
theorem wm650 : Cond.methodLink RX10 205 yX10_chainState ∈ lw_g := mg (List.mem_of_getElem? (i := 650) (by decide +kernel)) rfl
theorem wm652 : Cond.instanceMethod yX10_chainState ∈ lw_g := mg (List.mem_of_getElem? (i := 652) (by decide +kernel)) rfl
theorem wm653 : Cond.code yX10_chainState cX10_chainState 2 (some .int) ∈ lw_g := mg (List.mem_of_getElem? (i := 653) (by decide +kernel)) rfl
theorem wm654 : Cond.methodLink RX10 278 yX10_isLinkGood ∈ lw_g := mg (List.mem_of_getElem? (i := 654) (by decide +kernel)) rfl
theorem wm656 : Cond.instanceMethod yX10_isLinkGood ∈ lw_g := mg (List.mem_of_getElem? (i := 656) (by decide +kernel)) rfl
theorem wm657 : Cond.code yX10_isLinkGood cX10_isLinkGood 6 (some .boolean) ∈ lw_g := mg (List.mem_of_getElem? (i := 657) (by decide +kernel)) rfl
theorem wm658 : Cond.methodLink RX10 297 yX4_coverFor ∈ lw_g := mg (List.mem_of_getElem? (i := 658) (by decide +kernel)) rfl
theorem wm659 : Cond.instanceMethod yX4_coverFor ∈ lw_g := mg (List.mem_of_getElem? (i := 659) (by decide +kernel)) rfl
theorem wm660 : Cond.selects RX4 yX4_coverFor yX4_coverFor ∈ lw_g := mg (List.mem_of_getElem? (i := 660) (by decide +kernel)) rfl
theorem wm661 : Cond.code yX4_coverFor cX4_coverFor 7 (some .int) ∈ lw_g := mg (List.mem_of_getElem? (i := 661) (by decide +kernel)) rfl
theorem wm662 : Cond.methodLink RL 93 yX10_link ∈ lw_g := mg (List.mem_of_getElem? (i := 662) (by decide +kernel)) rfl
theorem wm663 : Cond.instanceMethod yX10_link ∈ lw_g := mg (List.mem_of_getElem? (i := 663) (by decide +kernel)) rfl
theorem wm664 : Cond.selects RX10 yX10_link yX10_link ∈ lw_g := mg (List.mem_of_getElem? (i := 664) (by decide +kernel)) rfl
theorem wm665 : Cond.code yX10_link cX10_link 4 (some .int) ∈ lw_g := mg (List.mem_of_getElem? (i := 665) (by decide +kernel)) rfl
theorem wm666 : Cond.methodLink RX10 209 yX4_appendLink ∈ lw_g := mg (List.mem_of_getElem? (i := 666) (by decide +kernel)) rfl
theorem wm667 : Cond.instanceMethod yX4_appendLink ∈ lw_g := mg (List.mem_of_getElem? (i := 667) (by decide +kernel)) rfl
theorem wm668 : Cond.selects RX4 yX4_appendLink yX4_appendLink ∈ lw_g := mg (List.mem_of_getElem? (i := 668) (by decide +kernel)) rfl
theorem wm669 : Cond.code yX4_appendLink cX4_appendLink 6 (some .int) ∈ lw_g := mg (List.mem_of_getElem? (i := 669) (by decide +kernel)) rfl
theorem wm670 : Cond.methodLink RX4 90 yX8_fill ∈ lw_g := mg (List.mem_of_getElem? (i := 670) (by decide +kernel)) rfl
theorem wm671 : Cond.methodLink RX4 94 yX4_seal ∈ lw_g := mg (List.mem_of_getElem? (i := 671) (by decide +kernel)) rfl
theorem wm672 : Cond.methodLink RX4 101 yX4_coverFor ∈ lw_g := mg (List.mem_of_getElem? (i := 672) (by decide +kernel)) rfl
theorem wm673 : Cond.methodLink RL 98 yX10_judge ∈ lw_g := mg (List.mem_of_getElem? (i := 673) (by decide +kernel)) rfl
theorem wm674 : Cond.instanceMethod yX10_judge ∈ lw_g := mg (List.mem_of_getElem? (i := 674) (by decide +kernel)) rfl
theorem wm675 : Cond.selects RX10 yX10_judge yX10_judge ∈ lw_g := mg (List.mem_of_getElem? (i := 675) (by decide +kernel)) rfl
theorem wm676 : Cond.code yX10_judge cX10_judge 6 (some .int) ∈ lw_g := mg (List.mem_of_getElem? (i := 676) (by decide +kernel)) rfl
theorem wm677 : Cond.methodLink RX10 212 yX10_policyOfAuthor ∈ lw_g := mg (List.mem_of_getElem? (i := 677) (by decide +kernel)) rfl
theorem wm679 : Cond.instanceMethod yX10_policyOfAuthor ∈ lw_g := mg (List.mem_of_getElem? (i := 679) (by decide +kernel)) rfl
theorem wm680 : Cond.code yX10_policyOfAuthor cX10_policyOfAuthor 3 (some (.object "MailArbiter$Policy")) ∈ lw_g := mg (List.mem_of_getElem? (i := 680) (by decide +kernel)) rfl
theorem wm681 : Cond.methodLink RX10 216 yX10_senderAgrees ∈ lw_g := mg (List.mem_of_getElem? (i := 681) (by decide +kernel)) rfl
theorem wm683 : Cond.instanceMethod yX10_senderAgrees ∈ lw_g := mg (List.mem_of_getElem? (i := 683) (by decide +kernel)) rfl
theorem wm684 : Cond.code yX10_senderAgrees cX10_senderAgrees 3 (some .boolean) ∈ lw_g := mg (List.mem_of_getElem? (i := 684) (by decide +kernel)) rfl
theorem wm685 : Cond.methodLink RX10 303 yX10_isAligned ∈ lw_g := mg (List.mem_of_getElem? (i := 685) (by decide +kernel)) rfl
theorem wm687 : Cond.instanceMethod yX10_isAligned ∈ lw_g := mg (List.mem_of_getElem? (i := 687) (by decide +kernel)) rfl
theorem wm688 : Cond.code yX10_isAligned cX10_isAligned 3 (some .boolean) ∈ lw_g := mg (List.mem_of_getElem? (i := 688) (by decide +kernel)) rfl
theorem wm689 : Cond.methodLink RX10 220 yX10_signatureAgrees ∈ lw_g := mg (List.mem_of_getElem? (i := 689) (by decide +kernel)) rfl
theorem wm691 : Cond.instanceMethod yX10_signatureAgrees ∈ lw_g := mg (List.mem_of_getElem? (i := 691) (by decide +kernel)) rfl
theorem wm692 : Cond.code yX10_signatureAgrees cX10_signatureAgrees 5 (some .boolean) ∈ lw_g := mg (List.mem_of_getElem? (i := 692) (by decide +kernel)) rfl
theorem wm693 : Cond.methodLink RX10 224 yX10_actionBy ∈ lw_g := mg (List.mem_of_getElem? (i := 693) (by decide +kernel)) rfl
theorem wm695 : Cond.instanceMethod yX10_actionBy ∈ lw_g := mg (List.mem_of_getElem? (i := 695) (by decide +kernel)) rfl
theorem wm696 : Cond.code yX10_actionBy cX10_actionBy 4 (some .int) ∈ lw_g := mg (List.mem_of_getElem? (i := 696) (by decide +kernel)) rfl
theorem wm697 : Cond.methodLink RX10 231 yX10_report ∈ lw_g := mg (List.mem_of_getElem? (i := 697) (by decide +kernel)) rfl
theorem wm699 : Cond.instanceMethod yX10_report ∈ lw_g := mg (List.mem_of_getElem? (i := 699) (by decide +kernel)) rfl
theorem wm700 : Cond.code yX10_report cX10_report 6 none ∈ lw_g := mg (List.mem_of_getElem? (i := 700) (by decide +kernel)) rfl
theorem wm701 : Cond.methodLink RX10 316 yX6_isFor ∈ lw_g := mg (List.mem_of_getElem? (i := 701) (by decide +kernel)) rfl
theorem wm702 : Cond.instanceMethod yX6_isFor ∈ lw_g := mg (List.mem_of_getElem? (i := 702) (by decide +kernel)) rfl
theorem wm703 : Cond.selects RX6 yX6_isFor yX6_isFor ∈ lw_g := mg (List.mem_of_getElem? (i := 703) (by decide +kernel)) rfl
theorem wm704 : Cond.code yX6_isFor cX6_isFor 5 (some .boolean) ∈ lw_g := mg (List.mem_of_getElem? (i := 704) (by decide +kernel)) rfl
theorem wm705 : Cond.methodLink RX10 323 yX6_fill ∈ lw_g := mg (List.mem_of_getElem? (i := 705) (by decide +kernel)) rfl
theorem wm706 : Cond.instanceMethod yX6_fill ∈ lw_g := mg (List.mem_of_getElem? (i := 706) (by decide +kernel)) rfl
theorem wm707 : Cond.selects RX6 yX6_fill yX6_fill ∈ lw_g := mg (List.mem_of_getElem? (i := 707) (by decide +kernel)) rfl
theorem wm708 : Cond.code yX6_fill cX6_fill 5 none ∈ lw_g := mg (List.mem_of_getElem? (i := 708) (by decide +kernel)) rfl
theorem wm709 : Cond.methodLink RL 102 yX10_row ∈ lw_g := mg (List.mem_of_getElem? (i := 709) (by decide +kernel)) rfl
theorem wm710 : Cond.instanceMethod yX10_row ∈ lw_g := mg (List.mem_of_getElem? (i := 710) (by decide +kernel)) rfl
theorem wm711 : Cond.selects RX10 yX10_row yX10_row ∈ lw_g := mg (List.mem_of_getElem? (i := 711) (by decide +kernel)) rfl
theorem wm712 : Cond.code yX10_row cX10_row 3 (some .int) ∈ lw_g := mg (List.mem_of_getElem? (i := 712) (by decide +kernel)) rfl
theorem wm713 : Cond.methodLink RX10 234 yX6_fieldAt ∈ lw_g := mg (List.mem_of_getElem? (i := 713) (by decide +kernel)) rfl
theorem wm714 : Cond.instanceMethod yX6_fieldAt ∈ lw_g := mg (List.mem_of_getElem? (i := 714) (by decide +kernel)) rfl
theorem wm715 : Cond.selects RX6 yX6_fieldAt yX6_fieldAt ∈ lw_g := mg (List.mem_of_getElem? (i := 715) (by decide +kernel)) rfl
theorem wm716 : Cond.code yX6_fieldAt cX6_fieldAt 2 (some .int) ∈ lw_g := mg (List.mem_of_getElem? (i := 716) (by decide +kernel)) rfl
theorem wm717 : Cond.methodLink RL 106 yX10_tick ∈ lw_g := mg (List.mem_of_getElem? (i := 717) (by decide +kernel)) rfl
theorem wm718 : Cond.instanceMethod yX10_tick ∈ lw_g := mg (List.mem_of_getElem? (i := 718) (by decide +kernel)) rfl
theorem wm719 : Cond.selects RX10 yX10_tick yX10_tick ∈ lw_g := mg (List.mem_of_getElem? (i := 719) (by decide +kernel)) rfl
theorem wm720 : Cond.code yX10_tick cX10_tick 2 (some .int) ∈ lw_g := mg (List.mem_of_getElem? (i := 720) (by decide +kernel)) rfl
theorem wm721 : Cond.classLink RL 10 RX11 ∈ lw_g := mg (List.mem_of_getElem? (i := 721) (by decide +kernel)) rfl
theorem wm722 : Cond.instantiable RX11 55 ∈ lw_g := mg (List.mem_of_getElem? (i := 722) (by decide +kernel)) rfl
theorem wm723 : Cond.methodLink RL 12 yX11_init ∈ lw_g := mg (List.mem_of_getElem? (i := 723) (by decide +kernel)) rfl
theorem wm724 : Cond.instanceMethod yX11_init ∈ lw_g := mg (List.mem_of_getElem? (i := 724) (by decide +kernel)) rfl
theorem wm725 : Cond.code yX11_init cX11_init 1 none ∈ lw_g := mg (List.mem_of_getElem? (i := 725) (by decide +kernel)) rfl
theorem wm726 : Cond.methodLink RX11 1 objectInit ∈ lw_g := mg (List.mem_of_getElem? (i := 726) (by decide +kernel)) rfl
theorem wm727 : Cond.fieldLink RX11 128 "MailArbiterModel" "domains" "I" ∈ lw_g := mg (List.mem_of_getElem? (i := 727) (by decide +kernel)) rfl
theorem wm728 : Cond.fieldLink RX11 7 "MailArbiterModel" "parents" "[I" ∈ lw_g := mg (List.mem_of_getElem? (i := 728) (by decide +kernel)) rfl
theorem wm729 : Cond.fieldLink RX11 13 "MailArbiterModel" "suffixes" "[Z" ∈ lw_g := mg (List.mem_of_getElem? (i := 729) (by decide +kernel)) rfl
theorem wm730 : Cond.fieldLink RX11 17 "MailArbiterModel" "silents" "[Z" ∈ lw_g := mg (List.mem_of_getElem? (i := 730) (by decide +kernel)) rfl
theorem wm731 : Cond.fieldLink RX11 20 "MailArbiterModel" "hosts" "[I" ∈ lw_g := mg (List.mem_of_getElem? (i := 731) (by decide +kernel)) rfl
theorem wm732 : Cond.fieldLink RX11 23 "MailArbiterModel" "hostMany" "[I" ∈ lw_g := mg (List.mem_of_getElem? (i := 732) (by decide +kernel)) rfl
theorem wm733 : Cond.fieldLink RX11 26 "MailArbiterModel" "ruled" "[Z" ∈ lw_g := mg (List.mem_of_getElem? (i := 733) (by decide +kernel)) rfl
theorem wm734 : Cond.fieldLink RX11 29 "MailArbiterModel" "terms" "[I" ∈ lw_g := mg (List.mem_of_getElem? (i := 734) (by decide +kernel)) rfl
theorem wm735 : Cond.fieldLink RX11 32 "MailArbiterModel" "signs" "[I" ∈ lw_g := mg (List.mem_of_getElem? (i := 735) (by decide +kernel)) rfl
theorem wm736 : Cond.fieldLink RX11 35 "MailArbiterModel" "kinds" "[I" ∈ lw_g := mg (List.mem_of_getElem? (i := 736) (by decide +kernel)) rfl
theorem wm737 : Cond.fieldLink RX11 38 "MailArbiterModel" "values" "[I" ∈ lw_g := mg (List.mem_of_getElem? (i := 737) (by decide +kernel)) rfl
theorem wm738 : Cond.fieldLink RX11 41 "MailArbiterModel" "bits" "[I" ∈ lw_g := mg (List.mem_of_getElem? (i := 738) (by decide +kernel)) rfl
theorem wm739 : Cond.fieldLink RX11 44 "MailArbiterModel" "redirects" "[I" ∈ lw_g := mg (List.mem_of_getElem? (i := 739) (by decide +kernel)) rfl
theorem wm740 : Cond.fieldLink RX11 47 "MailArbiterModel" "keys" "[I" ∈ lw_g := mg (List.mem_of_getElem? (i := 740) (by decide +kernel)) rfl
theorem wm741 : Cond.fieldLink RX11 50 "MailArbiterModel" "own" "[I" ∈ lw_g := mg (List.mem_of_getElem? (i := 741) (by decide +kernel)) rfl
theorem wm742 : Cond.fieldLink RX11 53 "MailArbiterModel" "below" "[I" ∈ lw_g := mg (List.mem_of_getElem? (i := 742) (by decide +kernel)) rfl
theorem wm743 : Cond.fieldLink RX11 56 "MailArbiterModel" "stricts" "[I" ∈ lw_g := mg (List.mem_of_getElem? (i := 743) (by decide +kernel)) rfl
theorem wm744 : Cond.fieldLink RX11 59 "MailArbiterModel" "parts" "[I" ∈ lw_g := mg (List.mem_of_getElem? (i := 744) (by decide +kernel)) rfl
theorem wm745 : Cond.fieldLink RX11 256 "MailArbiterModel" "time" "I" ∈ lw_g := mg (List.mem_of_getElem? (i := 745) (by decide +kernel)) rfl
theorem wm746 : Cond.fieldLink RX11 190 "MailArbiterModel" "mailed" "Z" ∈ lw_g := mg (List.mem_of_getElem? (i := 746) (by decide +kernel)) rfl
theorem wm747 : Cond.fieldLink RX11 184 "MailArbiterModel" "from" "I" ∈ lw_g := mg (List.mem_of_getElem? (i := 747) (by decide +kernel)) rfl
theorem wm748 : Cond.fieldLink RX11 197 "MailArbiterModel" "author" "I" ∈ lw_g := mg (List.mem_of_getElem? (i := 748) (by decide +kernel)) rfl
theorem wm749 : Cond.fieldLink RX11 141 "MailArbiterModel" "address" "I" ∈ lw_g := mg (List.mem_of_getElem? (i := 749) (by decide +kernel)) rfl
theorem wm750 : Cond.fieldLink RX11 200 "MailArbiterModel" "headers" "I" ∈ lw_g := mg (List.mem_of_getElem? (i := 750) (by decide +kernel)) rfl
theorem wm751 : Cond.fieldLink RX11 62 "MailArbiterModel" "names" "[I" ∈ lw_g := mg (List.mem_of_getElem? (i := 751) (by decide +kernel)) rfl
theorem wm752 : Cond.fieldLink RX11 65 "MailArbiterModel" "sizes" "[I" ∈ lw_g := mg (List.mem_of_getElem? (i := 752) (by decide +kernel)) rfl
theorem wm753 : Cond.fieldLink RX11 68 "MailArbiterModel" "texts" "[I" ∈ lw_g := mg (List.mem_of_getElem? (i := 753) (by decide +kernel)) rfl
theorem wm754 : Cond.fieldLink RX11 203 "MailArbiterModel" "bodySize" "I" ∈ lw_g := mg (List.mem_of_getElem? (i := 754) (by decide +kernel)) rfl
theorem wm755 : Cond.fieldLink RX11 71 "MailArbiterModel" "body" "[I" ∈ lw_g := mg (List.mem_of_getElem? (i := 755) (by decide +kernel)) rfl
theorem wm756 : Cond.fieldLink RX11 206 "MailArbiterModel" "signatures" "I" ∈ lw_g := mg (List.mem_of_getElem? (i := 756) (by decide +kernel)) rfl
theorem wm757 : Cond.fieldLink RX11 74 "MailArbiterModel" "byDomain" "[I" ∈ lw_g := mg (List.mem_of_getElem? (i := 757) (by decide +kernel)) rfl
theorem wm758 : Cond.fieldLink RX11 77 "MailArbiterModel" "bySelector" "[I" ∈ lw_g := mg (List.mem_of_getElem? (i := 758) (by decide +kernel)) rfl
theorem wm759 : Cond.fieldLink RX11 80 "MailArbiterModel" "ways" "[I" ∈ lw_g := mg (List.mem_of_getElem? (i := 759) (by decide +kernel)) rfl
theorem wm760 : Cond.fieldLink RX11 83 "MailArbiterModel" "covered" "[I" ∈ lw_g := mg (List.mem_of_getElem? (i := 760) (by decide +kernel)) rfl
theorem wm761 : Cond.fieldLink RX11 86 "MailArbiterModel" "limits" "[I" ∈ lw_g := mg (List.mem_of_getElem? (i := 761) (by decide +kernel)) rfl
theorem wm762 : Cond.fieldLink RX11 89 "MailArbiterModel" "ends" "[I" ∈ lw_g := mg (List.mem_of_getElem? (i := 762) (by decide +kernel)) rfl
theorem wm763 : Cond.fieldLink RX11 92 "MailArbiterModel" "bodyDigests" "[I" ∈ lw_g := mg (List.mem_of_getElem? (i := 763) (by decide +kernel)) rfl
theorem wm764 : Cond.fieldLink RX11 95 "MailArbiterModel" "seals" "[I" ∈ lw_g := mg (List.mem_of_getElem? (i := 764) (by decide +kernel)) rfl
theorem wm765 : Cond.fieldLink RX11 209 "MailArbiterModel" "links" "I" ∈ lw_g := mg (List.mem_of_getElem? (i := 765) (by decide +kernel)) rfl
theorem wm766 : Cond.fieldLink RX11 98 "MailArbiterModel" "states" "[I" ∈ lw_g := mg (List.mem_of_getElem? (i := 766) (by decide +kernel)) rfl
theorem wm767 : Cond.fieldLink RX11 101 "MailArbiterModel" "covers" "[I" ∈ lw_g := mg (List.mem_of_getElem? (i := 767) (by decide +kernel)) rfl
theorem wm768 : Cond.fieldLink RX11 217 "MailArbiterModel" "canonSize" "I" ∈ lw_g := mg (List.mem_of_getElem? (i := 768) (by decide +kernel)) rfl
theorem wm769 : Cond.fieldLink RX11 104 "MailArbiterModel" "canon" "[I" ∈ lw_g := mg (List.mem_of_getElem? (i := 769) (by decide +kernel)) rfl
theorem wm770 : Cond.fieldLink RX11 234 "MailArbiterModel" "mixed" "J" ∈ lw_g := mg (List.mem_of_getElem? (i := 770) (by decide +kernel)) rfl
theorem wm771 : Cond.fieldLink RX11 151 "MailArbiterModel" "lookups" "I" ∈ lw_g := mg (List.mem_of_getElem? (i := 771) (by decide +kernel)) rfl
theorem wm772 : Cond.fieldLink RX11 148 "MailArbiterModel" "empties" "I" ∈ lw_g := mg (List.mem_of_getElem? (i := 772) (by decide +kernel)) rfl
theorem wm773 : Cond.fieldLink RX11 165 "MailArbiterModel" "deep" "I" ∈ lw_g := mg (List.mem_of_getElem? (i := 773) (by decide +kernel)) rfl
theorem wm774 : Cond.fieldLink RX11 107 "MailArbiterModel" "who" "[I" ∈ lw_g := mg (List.mem_of_getElem? (i := 774) (by decide +kernel)) rfl
theorem wm775 : Cond.fieldLink RX11 110 "MailArbiterModel" "place" "[I" ∈ lw_g := mg (List.mem_of_getElem? (i := 775) (by decide +kernel)) rfl
theorem wm776 : Cond.fieldLink RX11 272 "MailArbiterModel" "rows" "I" ∈ lw_g := mg (List.mem_of_getElem? (i := 776) (by decide +kernel)) rfl
theorem wm777 : Cond.fieldLink RX11 113 "MailArbiterModel" "rowHome" "[I" ∈ lw_g := mg (List.mem_of_getElem? (i := 777) (by decide +kernel)) rfl
theorem wm778 : Cond.fieldLink RX11 116 "MailArbiterModel" "rowAddress" "[I" ∈ lw_g := mg (List.mem_of_getElem? (i := 778) (by decide +kernel)) rfl
theorem wm779 : Cond.fieldLink RX11 119 "MailArbiterModel" "rowDone" "[I" ∈ lw_g := mg (List.mem_of_getElem? (i := 779) (by decide +kernel)) rfl
theorem wm780 : Cond.fieldLink RX11 122 "MailArbiterModel" "rowResult" "[I" ∈ lw_g := mg (List.mem_of_getElem? (i := 780) (by decide +kernel)) rfl
theorem wm781 : Cond.fieldLink RX11 125 "MailArbiterModel" "rowCount" "[I" ∈ lw_g := mg (List.mem_of_getElem? (i := 781) (by decide +kernel)) rfl
theorem wm893 : Cond.arrayClass (.boolean) ∈ lw_g := mg (List.mem_of_getElem? (i := 893) (by decide +kernel)) rfl
theorem wm894 : Cond.methodLink RL 17 yX11_domain ∈ lw_g := mg (List.mem_of_getElem? (i := 894) (by decide +kernel)) rfl
theorem wm895 : Cond.instanceMethod yX11_domain ∈ lw_g := mg (List.mem_of_getElem? (i := 895) (by decide +kernel)) rfl
theorem wm896 : Cond.selects RX11 yX11_domain yX11_domain ∈ lw_g := mg (List.mem_of_getElem? (i := 896) (by decide +kernel)) rfl
theorem wm897 : Cond.code yX11_domain cX11_domain 3 (some .int) ∈ lw_g := mg (List.mem_of_getElem? (i := 897) (by decide +kernel)) rfl
theorem wm898 : Cond.methodLink RX11 132 yX11_isDomain ∈ lw_g := mg (List.mem_of_getElem? (i := 898) (by decide +kernel)) rfl
theorem wm900 : Cond.instanceMethod yX11_isDomain ∈ lw_g := mg (List.mem_of_getElem? (i := 900) (by decide +kernel)) rfl
theorem wm901 : Cond.code yX11_isDomain cX11_isDomain 2 (some .boolean) ∈ lw_g := mg (List.mem_of_getElem? (i := 901) (by decide +kernel)) rfl
theorem wm902 : Cond.methodLink RL 22 yX11_home ∈ lw_g := mg (List.mem_of_getElem? (i := 902) (by decide +kernel)) rfl
theorem wm903 : Cond.instanceMethod yX11_home ∈ lw_g := mg (List.mem_of_getElem? (i := 903) (by decide +kernel)) rfl
theorem wm904 : Cond.selects RX11 yX11_home yX11_home ∈ lw_g := mg (List.mem_of_getElem? (i := 904) (by decide +kernel)) rfl
theorem wm905 : Cond.code yX11_home cX11_home 2 (some .int) ∈ lw_g := mg (List.mem_of_getElem? (i := 905) (by decide +kernel)) rfl
theorem wm906 : Cond.methodLink RX11 136 yX11_homeOf ∈ lw_g := mg (List.mem_of_getElem? (i := 906) (by decide +kernel)) rfl
theorem wm908 : Cond.instanceMethod yX11_homeOf ∈ lw_g := mg (List.mem_of_getElem? (i := 908) (by decide +kernel)) rfl
theorem wm909 : Cond.code yX11_homeOf cX11_homeOf 3 (some .int) ∈ lw_g := mg (List.mem_of_getElem? (i := 909) (by decide +kernel)) rfl
theorem wm910 : Cond.methodLink RL 27 yX11_silent ∈ lw_g := mg (List.mem_of_getElem? (i := 910) (by decide +kernel)) rfl
theorem wm911 : Cond.instanceMethod yX11_silent ∈ lw_g := mg (List.mem_of_getElem? (i := 911) (by decide +kernel)) rfl
theorem wm912 : Cond.selects RX11 yX11_silent yX11_silent ∈ lw_g := mg (List.mem_of_getElem? (i := 912) (by decide +kernel)) rfl
theorem wm913 : Cond.code yX11_silent cX11_silent 3 (some .boolean) ∈ lw_g := mg (List.mem_of_getElem? (i := 913) (by decide +kernel)) rfl
theorem wm914 : Cond.methodLink RL 32 yX11_host ∈ lw_g := mg (List.mem_of_getElem? (i := 914) (by decide +kernel)) rfl
theorem wm915 : Cond.instanceMethod yX11_host ∈ lw_g := mg (List.mem_of_getElem? (i := 915) (by decide +kernel)) rfl
theorem wm916 : Cond.selects RX11 yX11_host yX11_host ∈ lw_g := mg (List.mem_of_getElem? (i := 916) (by decide +kernel)) rfl
theorem wm917 : Cond.code yX11_host cX11_host 5 (some .int) ∈ lw_g := mg (List.mem_of_getElem? (i := 917) (by decide +kernel)) rfl
theorem wm918 : Cond.methodLink RL 37 yX11_rule ∈ lw_g := mg (List.mem_of_getElem? (i := 918) (by decide +kernel)) rfl
theorem wm919 : Cond.instanceMethod yX11_rule ∈ lw_g := mg (List.mem_of_getElem? (i := 919) (by decide +kernel)) rfl
theorem wm920 : Cond.selects RX11 yX11_rule yX11_rule ∈ lw_g := mg (List.mem_of_getElem? (i := 920) (by decide +kernel)) rfl
theorem wm921 : Cond.code yX11_rule cX11_rule 10 (some .int) ∈ lw_g := mg (List.mem_of_getElem? (i := 921) (by decide +kernel)) rfl
theorem wm922 : Cond.methodLink RL 42 yX11_key ∈ lw_g := mg (List.mem_of_getElem? (i := 922) (by decide +kernel)) rfl
theorem wm923 : Cond.instanceMethod yX11_key ∈ lw_g := mg (List.mem_of_getElem? (i := 923) (by decide +kernel)) rfl
theorem wm924 : Cond.selects RX11 yX11_key yX11_key ∈ lw_g := mg (List.mem_of_getElem? (i := 924) (by decide +kernel)) rfl
theorem wm925 : Cond.code yX11_key cX11_key 4 (some .boolean) ∈ lw_g := mg (List.mem_of_getElem? (i := 925) (by decide +kernel)) rfl
theorem wm926 : Cond.constant RX11 140 (1000000) ∈ lw_g := mg (List.mem_of_getElem? (i := 926) (by decide +kernel)) rfl
theorem wm927 : Cond.methodLink RL 47 yX11_policy ∈ lw_g := mg (List.mem_of_getElem? (i := 927) (by decide +kernel)) rfl
theorem wm928 : Cond.instanceMethod yX11_policy ∈ lw_g := mg (List.mem_of_getElem? (i := 928) (by decide +kernel)) rfl
theorem wm929 : Cond.selects RX11 yX11_policy yX11_policy ∈ lw_g := mg (List.mem_of_getElem? (i := 929) (by decide +kernel)) rfl
theorem wm930 : Cond.code yX11_policy cX11_policy 7 (some .boolean) ∈ lw_g := mg (List.mem_of_getElem? (i := 930) (by decide +kernel)) rfl
theorem wm931 : Cond.methodLink RL 84 yX11_sender ∈ lw_g := mg (List.mem_of_getElem? (i := 931) (by decide +kernel)) rfl
theorem wm932 : Cond.instanceMethod yX11_sender ∈ lw_g := mg (List.mem_of_getElem? (i := 932) (by decide +kernel)) rfl
theorem wm933 : Cond.selects RX11 yX11_sender yX11_sender ∈ lw_g := mg (List.mem_of_getElem? (i := 933) (by decide +kernel)) rfl
theorem wm934 : Cond.code yX11_sender cX11_sender 1 (some .int) ∈ lw_g := mg (List.mem_of_getElem? (i := 934) (by decide +kernel)) rfl
theorem wm935 : Cond.methodLink RX11 194 yX11_checkSender ∈ lw_g := mg (List.mem_of_getElem? (i := 935) (by decide +kernel)) rfl
theorem wm937 : Cond.instanceMethod yX11_checkSender ∈ lw_g := mg (List.mem_of_getElem? (i := 937) (by decide +kernel)) rfl
theorem wm938 : Cond.code yX11_checkSender cX11_checkSender 3 (some .int) ∈ lw_g := mg (List.mem_of_getElem? (i := 938) (by decide +kernel)) rfl
theorem wm939 : Cond.methodLink RX11 177 yX11_wait ∈ lw_g := mg (List.mem_of_getElem? (i := 939) (by decide +kernel)) rfl
theorem wm941 : Cond.instanceMethod yX11_wait ∈ lw_g := mg (List.mem_of_getElem? (i := 941) (by decide +kernel)) rfl
theorem wm942 : Cond.code yX11_wait cX11_wait 2 none ∈ lw_g := mg (List.mem_of_getElem? (i := 942) (by decide +kernel)) rfl
theorem wm943 : Cond.methodLink RX11 187 yX11_stepOn ∈ lw_g := mg (List.mem_of_getElem? (i := 943) (by decide +kernel)) rfl
theorem wm945 : Cond.instanceMethod yX11_stepOn ∈ lw_g := mg (List.mem_of_getElem? (i := 945) (by decide +kernel)) rfl
theorem wm946 : Cond.code yX11_stepOn cX11_stepOn 5 (some .int) ∈ lw_g := mg (List.mem_of_getElem? (i := 946) (by decide +kernel)) rfl
theorem wm947 : Cond.methodLink RX11 168 yX11_back ∈ lw_g := mg (List.mem_of_getElem? (i := 947) (by decide +kernel)) rfl
theorem wm949 : Cond.instanceMethod yX11_back ∈ lw_g := mg (List.mem_of_getElem? (i := 949) (by decide +kernel)) rfl
theorem wm950 : Cond.code yX11_back cX11_back 4 (some .int) ∈ lw_g := mg (List.mem_of_getElem? (i := 950) (by decide +kernel)) rfl
theorem wm951 : Cond.methodLink RX11 171 yX11_sendOn ∈ lw_g := mg (List.mem_of_getElem? (i := 951) (by decide +kernel)) rfl
theorem wm953 : Cond.instanceMethod yX11_sendOn ∈ lw_g := mg (List.mem_of_getElem? (i := 953) (by decide +kernel)) rfl
theorem wm954 : Cond.code yX11_sendOn cX11_sendOn 2 (some .int) ∈ lw_g := mg (List.mem_of_getElem? (i := 954) (by decide +kernel)) rfl
theorem wm955 : Cond.methodLink RX11 174 yX11_lookup ∈ lw_g := mg (List.mem_of_getElem? (i := 955) (by decide +kernel)) rfl
theorem wm957 : Cond.instanceMethod yX11_lookup ∈ lw_g := mg (List.mem_of_getElem? (i := 957) (by decide +kernel)) rfl
theorem wm958 : Cond.code yX11_lookup cX11_lookup 1 (some .int) ∈ lw_g := mg (List.mem_of_getElem? (i := 958) (by decide +kernel)) rfl
theorem wm959 : Cond.methodLink RX11 181 yX11_tryTerm ∈ lw_g := mg (List.mem_of_getElem? (i := 959) (by decide +kernel)) rfl
theorem wm961 : Cond.instanceMethod yX11_tryTerm ∈ lw_g := mg (List.mem_of_getElem? (i := 961) (by decide +kernel)) rfl
theorem wm962 : Cond.code yX11_tryTerm cX11_tryTerm 3 (some .int) ∈ lw_g := mg (List.mem_of_getElem? (i := 962) (by decide +kernel)) rfl
theorem wm963 : Cond.methodLink RX11 144 yX11_agrees ∈ lw_g := mg (List.mem_of_getElem? (i := 963) (by decide +kernel)) rfl
theorem wm965 : Cond.instanceMethod yX11_agrees ∈ lw_g := mg (List.mem_of_getElem? (i := 965) (by decide +kernel)) rfl
theorem wm966 : Cond.code yX11_agrees cX11_agrees 3 (some .boolean) ∈ lw_g := mg (List.mem_of_getElem? (i := 966) (by decide +kernel)) rfl
theorem wm967 : Cond.methodLink RX11 154 yX11_empty ∈ lw_g := mg (List.mem_of_getElem? (i := 967) (by decide +kernel)) rfl
theorem wm969 : Cond.instanceMethod yX11_empty ∈ lw_g := mg (List.mem_of_getElem? (i := 969) (by decide +kernel)) rfl
theorem wm970 : Cond.code yX11_empty cX11_empty 1 (some .int) ∈ lw_g := mg (List.mem_of_getElem? (i := 970) (by decide +kernel)) rfl
theorem wm971 : Cond.methodLink RX11 158 yX11_tryExchangers ∈ lw_g := mg (List.mem_of_getElem? (i := 971) (by decide +kernel)) rfl
theorem wm973 : Cond.instanceMethod yX11_tryExchangers ∈ lw_g := mg (List.mem_of_getElem? (i := 973) (by decide +kernel)) rfl
theorem wm974 : Cond.code yX11_tryExchangers cX11_tryExchangers 5 (some .int) ∈ lw_g := mg (List.mem_of_getElem? (i := 974) (by decide +kernel)) rfl
theorem wm975 : Cond.methodLink RX11 162 yX11_isAt ∈ lw_g := mg (List.mem_of_getElem? (i := 975) (by decide +kernel)) rfl
theorem wm977 : Cond.instanceMethod yX11_isAt ∈ lw_g := mg (List.mem_of_getElem? (i := 977) (by decide +kernel)) rfl
theorem wm978 : Cond.code yX11_isAt cX11_isAt 5 (some .boolean) ∈ lw_g := mg (List.mem_of_getElem? (i := 978) (by decide +kernel)) rfl
theorem wm979 : Cond.methodLink RL 88 yX11_counted ∈ lw_g := mg (List.mem_of_getElem? (i := 979) (by decide +kernel)) rfl
theorem wm980 : Cond.instanceMethod yX11_counted ∈ lw_g := mg (List.mem_of_getElem? (i := 980) (by decide +kernel)) rfl
theorem wm981 : Cond.selects RX11 yX11_counted yX11_counted ∈ lw_g := mg (List.mem_of_getElem? (i := 981) (by decide +kernel)) rfl
theorem wm982 : Cond.code yX11_counted cX11_counted 2 (some .int) ∈ lw_g := mg (List.mem_of_getElem? (i := 982) (by decide +kernel)) rfl
theorem wm983 : Cond.methodLink RL 51 yX11_mail ∈ lw_g := mg (List.mem_of_getElem? (i := 983) (by decide +kernel)) rfl
theorem wm984 : Cond.instanceMethod yX11_mail ∈ lw_g := mg (List.mem_of_getElem? (i := 984) (by decide +kernel)) rfl
theorem wm985 : Cond.selects RX11 yX11_mail yX11_mail ∈ lw_g := mg (List.mem_of_getElem? (i := 985) (by decide +kernel)) rfl
theorem wm986 : Cond.code yX11_mail cX11_mail 4 (some .boolean) ∈ lw_g := mg (List.mem_of_getElem? (i := 986) (by decide +kernel)) rfl
theorem wm987 : Cond.methodLink RL 55 yX11_header ∈ lw_g := mg (List.mem_of_getElem? (i := 987) (by decide +kernel)) rfl
theorem wm988 : Cond.instanceMethod yX11_header ∈ lw_g := mg (List.mem_of_getElem? (i := 988) (by decide +kernel)) rfl
theorem wm989 : Cond.selects RX11 yX11_header yX11_header ∈ lw_g := mg (List.mem_of_getElem? (i := 989) (by decide +kernel)) rfl
theorem wm990 : Cond.code yX11_header cX11_header 2 (some .int) ∈ lw_g := mg (List.mem_of_getElem? (i := 990) (by decide +kernel)) rfl
theorem wm991 : Cond.methodLink RL 62 yX11_type ∈ lw_g := mg (List.mem_of_getElem? (i := 991) (by decide +kernel)) rfl
theorem wm992 : Cond.instanceMethod yX11_type ∈ lw_g := mg (List.mem_of_getElem? (i := 992) (by decide +kernel)) rfl
theorem wm993 : Cond.selects RX11 yX11_type yX11_type ∈ lw_g := mg (List.mem_of_getElem? (i := 993) (by decide +kernel)) rfl
theorem wm994 : Cond.code yX11_type cX11_type 8 (some .int) ∈ lw_g := mg (List.mem_of_getElem? (i := 994) (by decide +kernel)) rfl
theorem wm995 : Cond.methodLink RX11 212 yX11_isThere ∈ lw_g := mg (List.mem_of_getElem? (i := 995) (by decide +kernel)) rfl
theorem wm997 : Cond.instanceMethod yX11_isThere ∈ lw_g := mg (List.mem_of_getElem? (i := 997) (by decide +kernel)) rfl
theorem wm998 : Cond.code yX11_isThere cX11_isThere 2 (some .boolean) ∈ lw_g := mg (List.mem_of_getElem? (i := 998) (by decide +kernel)) rfl
theorem wm999 : Cond.constantLong RX11 215 (255) ∈ lw_g := mg (List.mem_of_getElem? (i := 999) (by decide +kernel)) rfl
theorem wm1000 : Cond.methodLink RL 66 yX11_length ∈ lw_g := mg (List.mem_of_getElem? (i := 1000) (by decide +kernel)) rfl
theorem wm1001 : Cond.instanceMethod yX11_length ∈ lw_g := mg (List.mem_of_getElem? (i := 1001) (by decide +kernel)) rfl
theorem wm1002 : Cond.selects RX11 yX11_length yX11_length ∈ lw_g := mg (List.mem_of_getElem? (i := 1002) (by decide +kernel)) rfl
theorem wm1003 : Cond.code yX11_length cX11_length 3 (some .int) ∈ lw_g := mg (List.mem_of_getElem? (i := 1003) (by decide +kernel)) rfl
theorem wm1004 : Cond.methodLink RX11 226 yX11_makeBody ∈ lw_g := mg (List.mem_of_getElem? (i := 1004) (by decide +kernel)) rfl
theorem wm1006 : Cond.instanceMethod yX11_makeBody ∈ lw_g := mg (List.mem_of_getElem? (i := 1006) (by decide +kernel)) rfl
theorem wm1007 : Cond.code yX11_makeBody cX11_makeBody 5 none ∈ lw_g := mg (List.mem_of_getElem? (i := 1007) (by decide +kernel)) rfl
theorem wm1008 : Cond.methodLink RX11 220 yX11_isBlank ∈ lw_g := mg (List.mem_of_getElem? (i := 1008) (by decide +kernel)) rfl
theorem wm1009 : Cond.static yX11_isBlank ∈ lw_g := mg (List.mem_of_getElem? (i := 1009) (by decide +kernel)) rfl
theorem wm1010 : Cond.code yX11_isBlank cX11_isBlank 1 (some .boolean) ∈ lw_g := mg (List.mem_of_getElem? (i := 1010) (by decide +kernel)) rfl
theorem wm1011 : Cond.methodLink RX11 223 yX11_add ∈ lw_g := mg (List.mem_of_getElem? (i := 1011) (by decide +kernel)) rfl
theorem wm1013 : Cond.instanceMethod yX11_add ∈ lw_g := mg (List.mem_of_getElem? (i := 1013) (by decide +kernel)) rfl
theorem wm1014 : Cond.code yX11_add cX11_add 2 none ∈ lw_g := mg (List.mem_of_getElem? (i := 1014) (by decide +kernel)) rfl
theorem wm1015 : Cond.methodLink RX11 230 yX11_makeHeader ∈ lw_g := mg (List.mem_of_getElem? (i := 1015) (by decide +kernel)) rfl
theorem wm1017 : Cond.instanceMethod yX11_makeHeader ∈ lw_g := mg (List.mem_of_getElem? (i := 1017) (by decide +kernel)) rfl
theorem wm1018 : Cond.code yX11_makeHeader cX11_makeHeader 6 none ∈ lw_g := mg (List.mem_of_getElem? (i := 1018) (by decide +kernel)) rfl
theorem wm1019 : Cond.methodLink RL 70 yX11_sign ∈ lw_g := mg (List.mem_of_getElem? (i := 1019) (by decide +kernel)) rfl
theorem wm1020 : Cond.instanceMethod yX11_sign ∈ lw_g := mg (List.mem_of_getElem? (i := 1020) (by decide +kernel)) rfl
theorem wm1021 : Cond.selects RX11 yX11_sign yX11_sign ∈ lw_g := mg (List.mem_of_getElem? (i := 1021) (by decide +kernel)) rfl
theorem wm1022 : Cond.code yX11_sign cX11_sign 7 (some .int) ∈ lw_g := mg (List.mem_of_getElem? (i := 1022) (by decide +kernel)) rfl
theorem wm1023 : Cond.constant RX11 252 (100000) ∈ lw_g := mg (List.mem_of_getElem? (i := 1023) (by decide +kernel)) rfl
theorem wm1024 : Cond.methodLink RX11 253 yX11_bodyLength ∈ lw_g := mg (List.mem_of_getElem? (i := 1024) (by decide +kernel)) rfl
theorem wm1026 : Cond.instanceMethod yX11_bodyLength ∈ lw_g := mg (List.mem_of_getElem? (i := 1026) (by decide +kernel)) rfl
theorem wm1027 : Cond.code yX11_bodyLength cX11_bodyLength 2 (some .int) ∈ lw_g := mg (List.mem_of_getElem? (i := 1027) (by decide +kernel)) rfl
theorem wm1028 : Cond.methodLink RX11 259 yX11_make ∈ lw_g := mg (List.mem_of_getElem? (i := 1028) (by decide +kernel)) rfl
theorem wm1030 : Cond.instanceMethod yX11_make ∈ lw_g := mg (List.mem_of_getElem? (i := 1030) (by decide +kernel)) rfl
theorem wm1031 : Cond.code yX11_make cX11_make 8 none ∈ lw_g := mg (List.mem_of_getElem? (i := 1031) (by decide +kernel)) rfl
theorem wm1032 : Cond.methodLink RX11 246 yX11_bodyDigest ∈ lw_g := mg (List.mem_of_getElem? (i := 1032) (by decide +kernel)) rfl
theorem wm1034 : Cond.instanceMethod yX11_bodyDigest ∈ lw_g := mg (List.mem_of_getElem? (i := 1034) (by decide +kernel)) rfl
theorem wm1035 : Cond.code yX11_bodyDigest cX11_bodyDigest 4 (some .int) ∈ lw_g := mg (List.mem_of_getElem? (i := 1035) (by decide +kernel)) rfl
theorem wm1036 : Cond.methodLink RX11 240 yX11_mix ∈ lw_g := mg (List.mem_of_getElem? (i := 1036) (by decide +kernel)) rfl
theorem wm1038 : Cond.instanceMethod yX11_mix ∈ lw_g := mg (List.mem_of_getElem? (i := 1038) (by decide +kernel)) rfl
theorem wm1039 : Cond.code yX11_mix cX11_mix 4 none ∈ lw_g := mg (List.mem_of_getElem? (i := 1039) (by decide +kernel)) rfl
theorem wm1040 : Cond.constantLong RX11 238 (-7046029254386353131) ∈ lw_g := mg (List.mem_of_getElem? (i := 1040) (by decide +kernel)) rfl
theorem wm1041 : Cond.methodLink RX11 243 yX11_digest ∈ lw_g := mg (List.mem_of_getElem? (i := 1041) (by decide +kernel)) rfl
theorem wm1043 : Cond.instanceMethod yX11_digest ∈ lw_g := mg (List.mem_of_getElem? (i := 1043) (by decide +kernel)) rfl
theorem wm1044 : Cond.code yX11_digest cX11_digest 1 (some .int) ∈ lw_g := mg (List.mem_of_getElem? (i := 1044) (by decide +kernel)) rfl
theorem wm1045 : Cond.methodLink RX11 249 yX11_sealOf ∈ lw_g := mg (List.mem_of_getElem? (i := 1045) (by decide +kernel)) rfl
theorem wm1047 : Cond.instanceMethod yX11_sealOf ∈ lw_g := mg (List.mem_of_getElem? (i := 1047) (by decide +kernel)) rfl
theorem wm1048 : Cond.code yX11_sealOf cX11_sealOf 4 (some .int) ∈ lw_g := mg (List.mem_of_getElem? (i := 1048) (by decide +kernel)) rfl
theorem wm1049 : Cond.methodLink RL 75 yX11_spoil ∈ lw_g := mg (List.mem_of_getElem? (i := 1049) (by decide +kernel)) rfl
theorem wm1050 : Cond.instanceMethod yX11_spoil ∈ lw_g := mg (List.mem_of_getElem? (i := 1050) (by decide +kernel)) rfl
theorem wm1051 : Cond.selects RX11 yX11_spoil yX11_spoil ∈ lw_g := mg (List.mem_of_getElem? (i := 1051) (by decide +kernel)) rfl
theorem wm1052 : Cond.code yX11_spoil cX11_spoil 3 (some .boolean) ∈ lw_g := mg (List.mem_of_getElem? (i := 1052) (by decide +kernel)) rfl
theorem wm1053 : Cond.methodLink RL 79 yX11_signature ∈ lw_g := mg (List.mem_of_getElem? (i := 1053) (by decide +kernel)) rfl
theorem wm1054 : Cond.instanceMethod yX11_signature ∈ lw_g := mg (List.mem_of_getElem? (i := 1054) (by decide +kernel)) rfl
theorem wm1055 : Cond.selects RX11 yX11_signature yX11_signature ∈ lw_g := mg (List.mem_of_getElem? (i := 1055) (by decide +kernel)) rfl
theorem wm1056 : Cond.code yX11_signature cX11_signature 2 (some .int) ∈ lw_g := mg (List.mem_of_getElem? (i := 1056) (by decide +kernel)) rfl
theorem wm1057 : Cond.methodLink RX11 263 yX11_checkSignature ∈ lw_g := mg (List.mem_of_getElem? (i := 1057) (by decide +kernel)) rfl
theorem wm1059 : Cond.instanceMethod yX11_checkSignature ∈ lw_g := mg (List.mem_of_getElem? (i := 1059) (by decide +kernel)) rfl
theorem wm1060 : Cond.code yX11_checkSignature cX11_checkSignature 3 (some .int) ∈ lw_g := mg (List.mem_of_getElem? (i := 1060) (by decide +kernel)) rfl
theorem wm1061 : Cond.methodLink RL 92 yX11_chain ∈ lw_g := mg (List.mem_of_getElem? (i := 1061) (by decide +kernel)) rfl
theorem wm1062 : Cond.instanceMethod yX11_chain ∈ lw_g := mg (List.mem_of_getElem? (i := 1062) (by decide +kernel)) rfl
theorem wm1063 : Cond.selects RX11 yX11_chain yX11_chain ∈ lw_g := mg (List.mem_of_getElem? (i := 1063) (by decide +kernel)) rfl
theorem wm1064 : Cond.code yX11_chain cX11_chain 1 (some .int) ∈ lw_g := mg (List.mem_of_getElem? (i := 1064) (by decide +kernel)) rfl
theorem wm1065 : Cond.methodLink RX11 269 yX11_chainState ∈ lw_g := mg (List.mem_of_getElem? (i := 1065) (by decide +kernel)) rfl
theorem wm1067 : Cond.instanceMethod yX11_chainState ∈ lw_g := mg (List.mem_of_getElem? (i := 1067) (by decide +kernel)) rfl
theorem wm1068 : Cond.code yX11_chainState cX11_chainState 4 (some .int) ∈ lw_g := mg (List.mem_of_getElem? (i := 1068) (by decide +kernel)) rfl
theorem wm1069 : Cond.methodLink RX11 266 yX11_coverOf ∈ lw_g := mg (List.mem_of_getElem? (i := 1069) (by decide +kernel)) rfl
theorem wm1071 : Cond.instanceMethod yX11_coverOf ∈ lw_g := mg (List.mem_of_getElem? (i := 1071) (by decide +kernel)) rfl
theorem wm1072 : Cond.code yX11_coverOf cX11_coverOf 4 (some .int) ∈ lw_g := mg (List.mem_of_getElem? (i := 1072) (by decide +kernel)) rfl
theorem wm1073 : Cond.methodLink RL 97 yX11_link ∈ lw_g := mg (List.mem_of_getElem? (i := 1073) (by decide +kernel)) rfl
theorem wm1074 : Cond.instanceMethod yX11_link ∈ lw_g := mg (List.mem_of_getElem? (i := 1074) (by decide +kernel)) rfl
theorem wm1075 : Cond.selects RX11 yX11_link yX11_link ∈ lw_g := mg (List.mem_of_getElem? (i := 1075) (by decide +kernel)) rfl
theorem wm1076 : Cond.code yX11_link cX11_link 4 (some .int) ∈ lw_g := mg (List.mem_of_getElem? (i := 1076) (by decide +kernel)) rfl
theorem wm1077 : Cond.methodLink RL 101 yX11_judge ∈ lw_g := mg (List.mem_of_getElem? (i := 1077) (by decide +kernel)) rfl
theorem wm1078 : Cond.instanceMethod yX11_judge ∈ lw_g := mg (List.mem_of_getElem? (i := 1078) (by decide +kernel)) rfl
theorem wm1079 : Cond.selects RX11 yX11_judge yX11_judge ∈ lw_g := mg (List.mem_of_getElem? (i := 1079) (by decide +kernel)) rfl
theorem wm1080 : Cond.code yX11_judge cX11_judge 10 (some .int) ∈ lw_g := mg (List.mem_of_getElem? (i := 1080) (by decide +kernel)) rfl
theorem wm1081 : Cond.methodLink RX11 275 yX11_isNear ∈ lw_g := mg (List.mem_of_getElem? (i := 1081) (by decide +kernel)) rfl
theorem wm1083 : Cond.instanceMethod yX11_isNear ∈ lw_g := mg (List.mem_of_getElem? (i := 1083) (by decide +kernel)) rfl
theorem wm1084 : Cond.code yX11_isNear cX11_isNear 3 (some .boolean) ∈ lw_g := mg (List.mem_of_getElem? (i := 1084) (by decide +kernel)) rfl
theorem wm1085 : Cond.methodLink RX11 279 yX11_report ∈ lw_g := mg (List.mem_of_getElem? (i := 1085) (by decide +kernel)) rfl
theorem wm1087 : Cond.instanceMethod yX11_report ∈ lw_g := mg (List.mem_of_getElem? (i := 1087) (by decide +kernel)) rfl
theorem wm1088 : Cond.code yX11_report cX11_report 5 none ∈ lw_g := mg (List.mem_of_getElem? (i := 1088) (by decide +kernel)) rfl
theorem wm1089 : Cond.methodLink RL 105 yX11_row ∈ lw_g := mg (List.mem_of_getElem? (i := 1089) (by decide +kernel)) rfl
theorem wm1090 : Cond.instanceMethod yX11_row ∈ lw_g := mg (List.mem_of_getElem? (i := 1090) (by decide +kernel)) rfl
theorem wm1091 : Cond.selects RX11 yX11_row yX11_row ∈ lw_g := mg (List.mem_of_getElem? (i := 1091) (by decide +kernel)) rfl
theorem wm1092 : Cond.code yX11_row cX11_row 3 (some .int) ∈ lw_g := mg (List.mem_of_getElem? (i := 1092) (by decide +kernel)) rfl
theorem wm1093 : Cond.methodLink RL 109 yX11_tick ∈ lw_g := mg (List.mem_of_getElem? (i := 1093) (by decide +kernel)) rfl
theorem wm1094 : Cond.instanceMethod yX11_tick ∈ lw_g := mg (List.mem_of_getElem? (i := 1094) (by decide +kernel)) rfl
theorem wm1095 : Cond.selects RX11 yX11_tick yX11_tick ∈ lw_g := mg (List.mem_of_getElem? (i := 1095) (by decide +kernel)) rfl
theorem wm1096 : Cond.code yX11_tick cX11_tick 2 (some .int) ∈ lw_g := mg (List.mem_of_getElem? (i := 1096) (by decide +kernel)) rfl
theorem wm1097 : Cond.constantLong RL 56 (4294967295) ∈ lw_g := mg (List.mem_of_getElem? (i := 1097) (by decide +kernel)) rfl
theorem nw0 : (RX10, 15, yX1_init, RX10) ∈ nstq := List.mem_of_getElem? (i := 0) rfl
theorem nw1 : (RX1, 11, yX2_init, RX10) ∈ nstq := List.mem_of_getElem? (i := 1) rfl
theorem nw2 : (RX1, 23, yX7_init, RX10) ∈ nstq := List.mem_of_getElem? (i := 2) rfl
theorem nw3 : (RX1, 34, yX5_init, RX10) ∈ nstq := List.mem_of_getElem? (i := 3) rfl
theorem nw4 : (RX10, 22, yX5_init, RX10) ∈ nstq := List.mem_of_getElem? (i := 4) rfl
theorem nw5 : (RX4, 43, yX8_init, RX10) ∈ nstq := List.mem_of_getElem? (i := 5) rfl
theorem nw6 : (RX4, 44, yX3_init, RX10) ∈ nstq := List.mem_of_getElem? (i := 6) rfl
theorem nw7 : (RX3, 9, yX8_init, RX10) ∈ nstq := List.mem_of_getElem? (i := 7) rfl
theorem nw8 : (RX10, 36, yX0_init, RX10) ∈ nstq := List.mem_of_getElem? (i := 8) rfl
theorem nw9 : (RX10, 47, yX6_init, RX10) ∈ nstq := List.mem_of_getElem? (i := 9) rfl
theorem nw10 : (RX4, 71, yX10_isWithin, RX10) ∈ nstq := List.mem_of_getElem? (i := 10) rfl
theorem nw11 : (RX9, 19, yX10_byteAt, RX10) ∈ nstq := List.mem_of_getElem? (i := 11) rfl
theorem nw12 : (RX9, 27, yX10_isBlank, RX10) ∈ nstq := List.mem_of_getElem? (i := 12) rfl
theorem nw13 : (RX4, 132, yX10_mixText, RX10) ∈ nstq := List.mem_of_getElem? (i := 13) rfl
theorem nw14 : (RX4, 136, yX10_digestOf, RX10) ∈ nstq := List.mem_of_getElem? (i := 14) rfl
theorem nw15 : (RX4, 140, yX10_mix, RX10) ∈ nstq := List.mem_of_getElem? (i := 15) rfl
theorem nw16 : (RX0, 67, yX10_agree, RX10) ∈ nstq := List.mem_of_getElem? (i := 16) rfl
theorem nw17 : (RX2, 19, yX10_agree, RX10) ∈ nstq := List.mem_of_getElem? (i := 17) rfl
theorem hinX0 : ∀ w ∈ u_ws RX0 TX0 2, w ∈ lw_g := by decide +kernel
theorem hinX1 : ∀ w ∈ u_ws RX1 TX1 8, w ∈ lw_g := by decide +kernel
theorem hinX2 : ∀ w ∈ u_ws RX2 TX2 2, w ∈ lw_g := by decide +kernel
theorem hinX3 : ∀ w ∈ u_ws RX3 TX3 3, w ∈ lw_g := by decide +kernel
theorem hinX4 : ∀ w ∈ u_ws RX4 TX4 13, w ∈ lw_g := by decide +kernel
theorem hinX5 : ∀ w ∈ u_ws RX5 TX5 5, w ∈ lw_g := by decide +kernel
theorem hinX6 : ∀ w ∈ u_ws RX6 TX6 5, w ∈ lw_g := by decide +kernel
theorem hinX7 : ∀ w ∈ u_ws RX7 TX7 7, w ∈ lw_g := by decide +kernel
theorem hinX8 : ∀ w ∈ u_ws RX8 TX8 8, w ∈ lw_g := by decide +kernel
theorem hinX9 : ∀ w ∈ u_ws RX9 TX9 2, w ∈ lw_g := by decide +kernel
theorem hinX10 : ∀ w ∈ u_ws RX10 TX10 8, w ∈ lw_g := by decide +kernel
theorem hinX11 : ∀ w ∈ u_ws RX11 TX11 55, w ∈ lw_g := by decide +kernel
