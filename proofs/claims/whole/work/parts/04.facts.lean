def K4_init : Mt := (yX4_init, cX4_init, 2, none, { frames := 3, cells := 25, slots := 9194, locals := 66 })
def K4_shape : Mt := (yX4_shape, cX4_shape, 5, (some .int), { frames := 2, cells := 0, slots := 0, locals := 41 })
def K4_write : Mt := (yX4_write, cX4_write, 4, (some .int), { frames := 1, cells := 0, slots := 0, locals := 21 })
def K4_end : Mt := (yX4_end, cX4_end, 3, (some .int), { frames := 1, cells := 0, slots := 0, locals := 21 })
def K4_cut : Mt := (yX4_cut, cX4_cut, 3, (some .int), { frames := 1, cells := 0, slots := 0, locals := 21 })
def K4_read : Mt := (yX4_read, cX4_read, 6, (some .int), { frames := 1, cells := 0, slots := 0, locals := 23 })
def K4_move : Mt := (yX4_move, cX4_move, 1, (some .int), { frames := 0, cells := 0, slots := 0, locals := 0 })
def K4_send : Mt := (yX4_send, cX4_send, 4, (some .int), { frames := 6, cells := 3, slots := 85, locals := 142 })
def K4_come : Mt := (yX4_come, cX4_come, 4, (some .int), { frames := 7, cells := 0, slots := 0, locals := 173 })
def K4_drop : Mt := (yX4_drop, cX4_drop, 2, (some .int), { frames := 1, cells := 0, slots := 0, locals := 22 })
def K4_twice : Mt := (yX4_twice, cX4_twice, 3, (some .int), { frames := 1, cells := 0, slots := 0, locals := 21 })
def K4_tick : Mt := (yX4_tick, cX4_tick, 4, (some .int), { frames := 5, cells := 0, slots := 0, locals := 118 })
def K4_stream : Mt := (yX4_stream, cX4_stream, 4, (some .int), { frames := 1, cells := 0, slots := 0, locals := 21 })
def K4_state : Mt := (yX4_state, cX4_state, 4, (some .int), { frames := 1, cells := 0, slots := 0, locals := 21 })
def K4_side : Mt := (yX4_side, cX4_side, 4, (some .int), { frames := 1, cells := 0, slots := 0, locals := 23 })
def K4_packet : Mt := (yX4_packet, cX4_packet, 5, (some .int), { frames := 2, cells := 0, slots := 0, locals := 44 })
def K4_part : Mt := (yX4_part, cX4_part, 6, (some .int), { frames := 2, cells := 0, slots := 0, locals := 44 })
def K4_net : Mt := (yX4_net, cX4_net, 4, (some .int), { frames := 1, cells := 0, slots := 0, locals := 21 })
def K4_told : Mt := (yX4_told, cX4_told, 2, (some .int), { frames := 1, cells := 0, slots := 0, locals := 20 })
def K4_flag : Mt := (yX4_flag, cX4_flag, 1, (some .int), { frames := 0, cells := 0, slots := 0, locals := 0 })
def K4_streamAt : Mt := (yX4_streamAt, cX4_streamAt, 2, (some (.object "StreamCarrier$Stream")), { frames := 0, cells := 0, slots := 0, locals := 0 })
def K4_sideAt : Mt := (yX4_sideAt, cX4_sideAt, 2, (some (.object "StreamCarrier$Side")), { frames := 0, cells := 0, slots := 0, locals := 0 })
def K4_packetOf : Mt := (yX4_packetOf, cX4_packetOf, 4, (some (.object "StreamCarrier$Packet")), { frames := 1, cells := 0, slots := 0, locals := 21 })
def K4_underWayAt : Mt := (yX4_underWayAt, cX4_underWayAt, 2, (some (.object "StreamCarrier$Packet")), { frames := 0, cells := 0, slots := 0, locals := 0 })
def K4_isUntouched : Mt := (yX4_isUntouched, cX4_isUntouched, 2, (some .boolean), { frames := 1, cells := 0, slots := 0, locals := 20 })
def K4_readBy : Mt := (yX4_readBy, cX4_readBy, 4, (some .int), { frames := 0, cells := 0, slots := 0, locals := 0 })
def K4_countedOf : Mt := (yX4_countedOf, cX4_countedOf, 4, (some .int), { frames := 0, cells := 0, slots := 0, locals := 0 })
def K4_fill : Mt := (yX4_fill, cX4_fill, 3, none, { frames := 5, cells := 0, slots := 0, locals := 120 })
def K4_addTold : Mt := (yX4_addTold, cX4_addTold, 9, none, { frames := 2, cells := 0, slots := 0, locals := 47 })
def K4_addAnswerAndAsk : Mt := (yX4_addAnswerAndAsk, cX4_addAnswerAndAsk, 3, none, { frames := 2, cells := 0, slots := 0, locals := 47 })
def K4_addBounds : Mt := (yX4_addBounds, cX4_addBounds, 5, none, { frames := 2, cells := 0, slots := 0, locals := 47 })
def K4_addCutOffs : Mt := (yX4_addCutOffs, cX4_addCutOffs, 4, none, { frames := 2, cells := 0, slots := 0, locals := 47 })
def K4_addBytes : Mt := (yX4_addBytes, cX4_addBytes, 6, none, { frames := 4, cells := 0, slots := 0, locals := 95 })
def K4_addBytesOf : Mt := (yX4_addBytesOf, cX4_addBytesOf, 9, (some .boolean), { frames := 3, cells := 0, slots := 0, locals := 67 })
def K4_newBytesOf : Mt := (yX4_newBytesOf, cX4_newBytesOf, 4, (some .int), { frames := 1, cells := 0, slots := 0, locals := 23 })
def K4_putUnderWay : Mt := (yX4_putUnderWay, cX4_putUnderWay, 3, none, { frames := 0, cells := 0, slots := 0, locals := 0 })
def K4_takeOffNet : Mt := (yX4_takeOffNet, cX4_takeOffNet, 3, none, { frames := 0, cells := 0, slots := 0, locals := 0 })
def K4_lookAtAddress : Mt := (yX4_lookAtAddress, cX4_lookAtAddress, 3, none, { frames := 1, cells := 0, slots := 0, locals := 22 })
def K4_takeParts : Mt := (yX4_takeParts, cX4_takeParts, 7, none, { frames := 6, cells := 0, slots := 0, locals := 147 })
def K4_takeTold : Mt := (yX4_takeTold, cX4_takeTold, 10, none, { frames := 5, cells := 0, slots := 0, locals := 118 })
def K4_settle : Mt := (yX4_settle, cX4_settle, 6, none, { frames := 3, cells := 0, slots := 0, locals := 68 })
def K4_lookForLost : Mt := (yX4_lookForLost, cX4_lookForLost, 6, none, { frames := 4, cells := 0, slots := 0, locals := 93 })
def K4_lose : Mt := (yX4_lose, cX4_lose, 7, none, { frames := 3, cells := 0, slots := 0, locals := 67 })
def K5_init : Mt := (yX5_init, cX5_init, 1, none, { frames := 1, cells := 52, slots := 84464, locals := 21 })
def K5_in : Mt := (yX5_in, cX5_in, 6, (some .boolean), { frames := 0, cells := 0, slots := 0, locals := 0 })
def K5_begin : Mt := (yX5_begin, cX5_begin, 2, none, { frames := 0, cells := 0, slots := 0, locals := 0 })
def K5_isStream : Mt := (yX5_isStream, cX5_isStream, 1, (some .boolean), { frames := 1, cells := 0, slots := 0, locals := 25 })
def K5_isSide : Mt := (yX5_isSide, cX5_isSide, 1, (some .boolean), { frames := 1, cells := 0, slots := 0, locals := 25 })
def K5_shape : Mt := (yX5_shape, cX5_shape, 4, (some .int), { frames := 1, cells := 0, slots := 0, locals := 25 })
def K5_write : Mt := (yX5_write, cX5_write, 3, (some .int), { frames := 2, cells := 0, slots := 0, locals := 45 })
def K5_end : Mt := (yX5_end, cX5_end, 2, (some .int), { frames := 2, cells := 0, slots := 0, locals := 45 })
def K5_cut : Mt := (yX5_cut, cX5_cut, 2, (some .int), { frames := 2, cells := 0, slots := 0, locals := 45 })
def K5_allRead : Mt := (yX5_allRead, cX5_allRead, 4, (some .int), { frames := 0, cells := 0, slots := 0, locals := 0 })
def K5_read : Mt := (yX5_read, cX5_read, 6, (some .int), { frames := 2, cells := 0, slots := 0, locals := 45 })
def K5_move : Mt := (yX5_move, cX5_move, 1, (some .int), { frames := 0, cells := 0, slots := 0, locals := 0 })
def K5_at : Mt := (yX5_at, cX5_at, 3, (some .int), { frames := 0, cells := 0, slots := 0, locals := 0 })
def K5_put : Mt := (yX5_put, cX5_put, 7, (some .boolean), { frames := 0, cells := 0, slots := 0, locals := 0 })
def K5_putTold : Mt := (yX5_putTold, cX5_putTold, 5, none, { frames := 1, cells := 0, slots := 0, locals := 26 })
def K5_putBounds : Mt := (yX5_putBounds, cX5_putBounds, 3, none, { frames := 1, cells := 0, slots := 0, locals := 26 })
def K5_counted : Mt := (yX5_counted, cX5_counted, 4, (some .int), { frames := 0, cells := 0, slots := 0, locals := 0 })
def K5_firstAgain : Mt := (yX5_firstAgain, cX5_firstAgain, 3, (some .int), { frames := 0, cells := 0, slots := 0, locals := 0 })
def K5_putBytes : Mt := (yX5_putBytes, cX5_putBytes, 9, none, { frames := 1, cells := 0, slots := 0, locals := 26 })
def K5_send : Mt := (yX5_send, cX5_send, 2, (some .int), { frames := 3, cells := 0, slots := 0, locals := 78 })
def K5_putRest : Mt := (yX5_putRest, cX5_putRest, 5, none, { frames := 2, cells := 0, slots := 0, locals := 54 })
def K5_takeOut : Mt := (yX5_takeOut, cX5_takeOut, 3, none, { frames := 0, cells := 0, slots := 0, locals := 0 })
def K5_come : Mt := (yX5_come, cX5_come, 8, (some .int), { frames := 4, cells := 0, slots := 0, locals := 106 })
def K5_lookAtPath : Mt := (yX5_lookAtPath, cX5_lookAtPath, 3, none, { frames := 0, cells := 0, slots := 0, locals := 0 })
def K5_partComes : Mt := (yX5_partComes, cX5_partComes, 7, none, { frames := 3, cells := 0, slots := 0, locals := 80 })
def K5_bytesCome : Mt := (yX5_bytesCome, cX5_bytesCome, 6, none, { frames := 0, cells := 0, slots := 0, locals := 0 })
def K5_toldComes : Mt := (yX5_toldComes, cX5_toldComes, 8, none, { frames := 2, cells := 0, slots := 0, locals := 53 })
def K5_measure : Mt := (yX5_measure, cX5_measure, 4, none, { frames := 0, cells := 0, slots := 0, locals := 0 })
def K5_arrives : Mt := (yX5_arrives, cX5_arrives, 7, none, { frames := 0, cells := 0, slots := 0, locals := 0 })
def K5_limit : Mt := (yX5_limit, cX5_limit, 4, (some .int), { frames := 0, cells := 0, slots := 0, locals := 0 })
def K5_lookForLost : Mt := (yX5_lookForLost, cX5_lookForLost, 7, none, { frames := 1, cells := 0, slots := 0, locals := 27 })
def K5_loses : Mt := (yX5_loses, cX5_loses, 8, none, { frames := 0, cells := 0, slots := 0, locals := 0 })
def K5_drop : Mt := (yX5_drop, cX5_drop, 2, (some .int), { frames := 1, cells := 0, slots := 0, locals := 25 })
def K5_twice : Mt := (yX5_twice, cX5_twice, 2, (some .int), { frames := 1, cells := 0, slots := 0, locals := 25 })
def K5_waitOf : Mt := (yX5_waitOf, cX5_waitOf, 3, (some .int), { frames := 0, cells := 0, slots := 0, locals := 0 })
def K5_tick : Mt := (yX5_tick, cX5_tick, 6, (some .int), { frames := 2, cells := 0, slots := 0, locals := 53 })
def K5_asInt : Mt := (yX5_asInt, cX5_asInt, 1, (some .int), { frames := 0, cells := 0, slots := 0, locals := 0 })
def K5_many : Mt := (yX5_many, cX5_many, 5, (some .int), { frames := 0, cells := 0, slots := 0, locals := 0 })
def K5_cameMany : Mt := (yX5_cameMany, cX5_cameMany, 4, (some .int), { frames := 0, cells := 0, slots := 0, locals := 0 })
def K5_stream : Mt := (yX5_stream, cX5_stream, 3, (some .int), { frames := 2, cells := 0, slots := 0, locals := 45 })
def K5_state : Mt := (yX5_state, cX5_state, 3, (some .int), { frames := 2, cells := 0, slots := 0, locals := 45 })
def K5_side : Mt := (yX5_side, cX5_side, 3, (some .int), { frames := 2, cells := 0, slots := 0, locals := 45 })
def K5_isPacket : Mt := (yX5_isPacket, cX5_isPacket, 3, (some .boolean), { frames := 2, cells := 0, slots := 0, locals := 45 })
def K5_packet : Mt := (yX5_packet, cX5_packet, 5, (some .int), { frames := 3, cells := 0, slots := 0, locals := 67 })
def K5_part : Mt := (yX5_part, cX5_part, 8, (some .int), { frames := 3, cells := 0, slots := 0, locals := 67 })
def K5_net : Mt := (yX5_net, cX5_net, 3, (some .int), { frames := 1, cells := 0, slots := 0, locals := 25 })
def K5_told : Mt := (yX5_told, cX5_told, 2, (some .int), { frames := 1, cells := 0, slots := 0, locals := 20 })
def K0_init : Mt := (yX0_init, cX0_init, 2, none, { frames := 1, cells := 0, slots := 0, locals := 22 })
def K0_startOver : Mt := (yX0_startOver, cX0_startOver, 3, none, { frames := 0, cells := 0, slots := 0, locals := 0 })
def K0_isShut : Mt := (yX0_isShut, cX0_isShut, 2, (some .boolean), { frames := 0, cells := 0, slots := 0, locals := 0 })
def K0_measure : Mt := (yX0_measure, cX0_measure, 2, none, { frames := 1, cells := 0, slots := 0, locals := 21 })
def K0_grow : Mt := (yX0_grow, cX0_grow, 3, none, { frames := 0, cells := 0, slots := 0, locals := 0 })
def K0_fallBack : Mt := (yX0_fallBack, cX0_fallBack, 3, none, { frames := 1, cells := 0, slots := 0, locals := 21 })
def K0_limit : Mt := (yX0_limit, cX0_limit, 1, (some .int), { frames := 1, cells := 0, slots := 0, locals := 21 })
def K0_waitTime : Mt := (yX0_waitTime, cX0_waitTime, 1, (some .int), { frames := 1, cells := 0, slots := 0, locals := 21 })
def K0_probeIfLate : Mt := (yX0_probeIfLate, cX0_probeIfLate, 2, none, { frames := 2, cells := 0, slots := 0, locals := 41 })
def K1_init : Mt := (yX1_init, cX1_init, 7, none, { frames := 1, cells := 2, slots := 72, locals := 21 })
def K1_roomLeft : Mt := (yX1_roomLeft, cX1_roomLeft, 1, (some .int), { frames := 0, cells := 0, slots := 0, locals := 0 })
def K1_isInFlight : Mt := (yX1_isInFlight, cX1_isInFlight, 1, (some .boolean), { frames := 0, cells := 0, slots := 0, locals := 0 })
def K1_partAt : Mt := (yX1_partAt, cX1_partAt, 4, (some .int), { frames := 0, cells := 0, slots := 0, locals := 0 })
def K1_add : Mt := (yX1_add, cX1_add, 7, (some .boolean), { frames := 1, cells := 0, slots := 0, locals := 21 })
def K1_weightOf : Mt := (yX1_weightOf, cX1_weightOf, 2, (some .int), { frames := 0, cells := 0, slots := 0, locals := 0 })
def K2_init : Mt := (yX2_init, cX2_init, 4, none, { frames := 2, cells := 2, slots := 310, locals := 43 })
def K2_packetAt : Mt := (yX2_packetAt, cX2_packetAt, 2, (some (.object "StreamCarrier$Packet")), { frames := 0, cells := 0, slots := 0, locals := 0 })
def K3_init : Mt := (yX3_init, cX3_init, 2, none, { frames := 1, cells := 1, slots := 1000, locals := 21 })
def K3_isUntouched : Mt := (yX3_isUntouched, cX3_isUntouched, 1, (some .boolean), { frames := 0, cells := 0, slots := 0, locals := 0 })
def K3_isEndDue : Mt := (yX3_isEndDue, cX3_isEndDue, 1, (some .boolean), { frames := 0, cells := 0, slots := 0, locals := 0 })
def K3_senderKnows : Mt := (yX3_senderKnows, cX3_senderKnows, 2, (some .int), { frames := 0, cells := 0, slots := 0, locals := 0 })
def K3_setSenderKnows : Mt := (yX3_setSenderKnows, cX3_setSenderKnows, 3, none, { frames := 0, cells := 0, slots := 0, locals := 0 })
def K3_stop : Mt := (yX3_stop, cX3_stop, 3, (some .int), { frames := 1, cells := 0, slots := 0, locals := 21 })
def K3_firstAgain : Mt := (yX3_firstAgain, cX3_firstAgain, 2, (some .int), { frames := 1, cells := 0, slots := 0, locals := 21 })
def K3_countAgainFrom : Mt := (yX3_countAgainFrom, cX3_countAgainFrom, 3, (some .int), { frames := 1, cells := 0, slots := 0, locals := 21 })
def K3_markSent : Mt := (yX3_markSent, cX3_markSent, 5, none, { frames := 2, cells := 0, slots := 0, locals := 43 })
def K3_markArrived : Mt := (yX3_markArrived, cX3_markArrived, 6, none, { frames := 2, cells := 0, slots := 0, locals := 43 })
def K3_markAgain : Mt := (yX3_markAgain, cX3_markAgain, 5, none, { frames := 2, cells := 0, slots := 0, locals := 43 })
def K3_markCame : Mt := (yX3_markCame, cX3_markCame, 5, none, { frames := 2, cells := 0, slots := 0, locals := 43 })
theorem fl_4_7 : Fld RX4 7 4 5 := ⟨by decide, by decide, rfl, mB 208 (by decide +kernel) rfl⟩
theorem fl_4_13 : Fld RX4 13 4 6 := ⟨by decide, by decide, rfl, mB 209 (by decide +kernel) rfl⟩
theorem fl_4_16 : Fld RX4 16 4 7 := ⟨by decide, by decide, rfl, mB 210 (by decide +kernel) rfl⟩
theorem fl_4_21 : Fld RX4 21 4 2 := ⟨by decide, by decide, rfl, mB 205 (by decide +kernel) rfl⟩
theorem fl_4_27 : Fld RX4 27 4 0 := ⟨by decide, by decide, rfl, mB 203 (by decide +kernel) rfl⟩
theorem fl_4_36 : Fld RX4 36 4 1 := ⟨by decide, by decide, rfl, mB 204 (by decide +kernel) rfl⟩
theorem fl_4_47 : Fld RX4 47 3 8 := ⟨by decide, by decide, rfl, mB 41 (by decide +kernel) rfl⟩
theorem fl_4_50 : Fld RX4 50 3 13 := ⟨by decide, by decide, rfl, mB 50 (by decide +kernel) rfl⟩
theorem fl_4_53 : Fld RX4 53 2 2 := ⟨by decide, by decide, rfl, mB 156 (by decide +kernel) rfl⟩
theorem fl_4_57 : Fld RX4 57 0 1 := ⟨by decide, by decide, rfl, mB 113 (by decide +kernel) rfl⟩
theorem fl_4_62 : Fld RX4 62 2 8 := ⟨by decide, by decide, rfl, mB 166 (by decide +kernel) rfl⟩
theorem fl_4_65 : Fld RX4 65 2 9 := ⟨by decide, by decide, rfl, mB 168 (by decide +kernel) rfl⟩
theorem fl_4_72 : Fld RX4 72 3 2 := ⟨by decide, by decide, rfl, mB 30 (by decide +kernel) rfl⟩
theorem fl_4_76 : Fld RX4 76 3 3 := ⟨by decide, by decide, rfl, mB 32 (by decide +kernel) rfl⟩
theorem fl_4_79 : Fld RX4 79 3 1 := ⟨by decide, by decide, rfl, mB 28 (by decide +kernel) rfl⟩
theorem fl_4_82 : Fld RX4 82 3 4 := ⟨by decide, by decide, rfl, mB 33 (by decide +kernel) rfl⟩
theorem fl_4_85 : Fld RX4 85 3 11 := ⟨by decide, by decide, rfl, mB 46 (by decide +kernel) rfl⟩
theorem fl_4_88 : Fld RX4 88 3 12 := ⟨by decide, by decide, rfl, mB 48 (by decide +kernel) rfl⟩
theorem fl_4_97 : Fld RX4 97 3 14 := ⟨by decide, by decide, rfl, mB 51 (by decide +kernel) rfl⟩
theorem fl_4_104 : Fld RX4 104 2 10 := ⟨by decide, by decide, rfl, mB 169 (by decide +kernel) rfl⟩
theorem fl_4_107 : Fld RX4 107 4 8 := ⟨by decide, by decide, rfl, mB 211 (by decide +kernel) rfl⟩
theorem fl_4_114 : Fld RX4 114 2 3 := ⟨by decide, by decide, rfl, mB 158 (by decide +kernel) rfl⟩
theorem fl_4_117 : Fld RX4 117 4 3 := ⟨by decide, by decide, rfl, mB 206 (by decide +kernel) rfl⟩
theorem fl_4_120 : Fld RX4 120 4 10 := ⟨by decide, by decide, rfl, mB 213 (by decide +kernel) rfl⟩
theorem fl_4_123 : Fld RX4 123 4 12 := ⟨by decide, by decide, rfl, mB 215 (by decide +kernel) rfl⟩
theorem fl_4_126 : Fld RX4 126 4 11 := ⟨by decide, by decide, rfl, mB 214 (by decide +kernel) rfl⟩
theorem fl_4_129 : Fld RX4 129 4 4 := ⟨by decide, by decide, rfl, mB 207 (by decide +kernel) rfl⟩
theorem fl_4_132 : Fld RX4 132 4 9 := ⟨by decide, by decide, rfl, mB 212 (by decide +kernel) rfl⟩
theorem fl_4_142 : Fld RX4 142 1 7 := ⟨by decide, by decide, rfl, mB 315 (by decide +kernel) rfl⟩
theorem fl_4_148 : Fld RX4 148 1 1 := ⟨by decide, by decide, rfl, mB 305 (by decide +kernel) rfl⟩
theorem fl_4_158 : Fld RX4 158 1 0 := ⟨by decide, by decide, rfl, mB 303 (by decide +kernel) rfl⟩
theorem fl_4_161 : Fld RX4 161 1 3 := ⟨by decide, by decide, rfl, mB 309 (by decide +kernel) rfl⟩
theorem fl_4_162 : Fld RX4 162 4 13 := ⟨by decide, by decide, rfl, mB 216 (by decide +kernel) rfl⟩
theorem fl_4_165 : Fld RX4 165 1 9 := ⟨by decide, by decide, rfl, mB 319 (by decide +kernel) rfl⟩
theorem fl_4_168 : Fld RX4 168 2 7 := ⟨by decide, by decide, rfl, mB 164 (by decide +kernel) rfl⟩
theorem fl_4_171 : Fld RX4 171 1 12 := ⟨by decide, by decide, rfl, mB 324 (by decide +kernel) rfl⟩
theorem fl_4_177 : Fld RX4 177 2 6 := ⟨by decide, by decide, rfl, mB 163 (by decide +kernel) rfl⟩
theorem fl_4_197 : Fld RX4 197 3 5 := ⟨by decide, by decide, rfl, mB 35 (by decide +kernel) rfl⟩
theorem fl_4_200 : Fld RX4 200 3 6 := ⟨by decide, by decide, rfl, mB 37 (by decide +kernel) rfl⟩
theorem fl_4_203 : Fld RX4 203 3 7 := ⟨by decide, by decide, rfl, mB 39 (by decide +kernel) rfl⟩
theorem fl_4_206 : Fld RX4 206 3 9 := ⟨by decide, by decide, rfl, mB 43 (by decide +kernel) rfl⟩
theorem fl_4_209 : Fld RX4 209 3 10 := ⟨by decide, by decide, rfl, mB 45 (by decide +kernel) rfl⟩
theorem fl_4_211 : Fld RX4 211 3 15 := ⟨by decide, by decide, rfl, mB 53 (by decide +kernel) rfl⟩
theorem fl_4_214 : Fld RX4 214 3 16 := ⟨by decide, by decide, rfl, mB 54 (by decide +kernel) rfl⟩
theorem fl_4_217 : Fld RX4 217 3 0 := ⟨by decide, by decide, rfl, mB 26 (by decide +kernel) rfl⟩
theorem fl_4_221 : Fld RX4 221 0 0 := ⟨by decide, by decide, rfl, mB 111 (by decide +kernel) rfl⟩
theorem fl_4_224 : Fld RX4 224 0 2 := ⟨by decide, by decide, rfl, mB 115 (by decide +kernel) rfl⟩
theorem fl_4_227 : Fld RX4 227 0 3 := ⟨by decide, by decide, rfl, mB 117 (by decide +kernel) rfl⟩
theorem fl_4_230 : Fld RX4 230 0 4 := ⟨by decide, by decide, rfl, mB 119 (by decide +kernel) rfl⟩
theorem fl_4_233 : Fld RX4 233 0 5 := ⟨by decide, by decide, rfl, mB 121 (by decide +kernel) rfl⟩
theorem fl_4_236 : Fld RX4 236 0 6 := ⟨by decide, by decide, rfl, mB 123 (by decide +kernel) rfl⟩
theorem fl_4_239 : Fld RX4 239 0 7 := ⟨by decide, by decide, rfl, mB 125 (by decide +kernel) rfl⟩
theorem fl_4_242 : Fld RX4 242 0 8 := ⟨by decide, by decide, rfl, mB 127 (by decide +kernel) rfl⟩
theorem fl_4_245 : Fld RX4 245 2 5 := ⟨by decide, by decide, rfl, mB 161 (by decide +kernel) rfl⟩
theorem fl_4_255 : Fld RX4 255 1 2 := ⟨by decide, by decide, rfl, mB 307 (by decide +kernel) rfl⟩
theorem fl_4_256 : Fld RX4 256 1 8 := ⟨by decide, by decide, rfl, mB 317 (by decide +kernel) rfl⟩
theorem fl_4_259 : Fld RX4 259 1 10 := ⟨by decide, by decide, rfl, mB 321 (by decide +kernel) rfl⟩
theorem fl_4_262 : Fld RX4 262 1 11 := ⟨by decide, by decide, rfl, mB 323 (by decide +kernel) rfl⟩
theorem fl_4_268 : Fld RX4 268 1 6 := ⟨by decide, by decide, rfl, mB 313 (by decide +kernel) rfl⟩
theorem fl_4_276 : Fld RX4 276 2 0 := ⟨by decide, by decide, rfl, mB 152 (by decide +kernel) rfl⟩
theorem fl_4_300 : Fld RX4 300 2 12 := ⟨by decide, by decide, rfl, mB 172 (by decide +kernel) rfl⟩
theorem fl_4_303 : Fld RX4 303 2 11 := ⟨by decide, by decide, rfl, mB 170 (by decide +kernel) rfl⟩
theorem fl_4_306 : Fld RX4 306 2 13 := ⟨by decide, by decide, rfl, mB 173 (by decide +kernel) rfl⟩
theorem fl_4_338 : Fld RX4 338 2 1 := ⟨by decide, by decide, rfl, mB 154 (by decide +kernel) rfl⟩
theorem fl_4_341 : Fld RX4 341 0 9 := ⟨by decide, by decide, rfl, mB 129 (by decide +kernel) rfl⟩
theorem fl_4_371 : Fld RX4 371 2 4 := ⟨by decide, by decide, rfl, mB 159 (by decide +kernel) rfl⟩
theorem fl_5_7 : Fld RX5 7 5 0 := ⟨by decide, by decide, rfl, mB 592 (by decide +kernel) rfl⟩
theorem fl_5_13 : Fld RX5 13 5 1 := ⟨by decide, by decide, rfl, mB 593 (by decide +kernel) rfl⟩
theorem fl_5_16 : Fld RX5 16 5 2 := ⟨by decide, by decide, rfl, mB 594 (by decide +kernel) rfl⟩
theorem fl_5_19 : Fld RX5 19 5 5 := ⟨by decide, by decide, rfl, mB 597 (by decide +kernel) rfl⟩
theorem fl_5_23 : Fld RX5 23 5 6 := ⟨by decide, by decide, rfl, mB 598 (by decide +kernel) rfl⟩
theorem fl_5_27 : Fld RX5 27 5 7 := ⟨by decide, by decide, rfl, mB 599 (by decide +kernel) rfl⟩
theorem fl_5_30 : Fld RX5 30 5 8 := ⟨by decide, by decide, rfl, mB 600 (by decide +kernel) rfl⟩
theorem fl_5_33 : Fld RX5 33 5 9 := ⟨by decide, by decide, rfl, mB 601 (by decide +kernel) rfl⟩
theorem fl_5_36 : Fld RX5 36 5 10 := ⟨by decide, by decide, rfl, mB 602 (by decide +kernel) rfl⟩
theorem fl_5_39 : Fld RX5 39 5 11 := ⟨by decide, by decide, rfl, mB 603 (by decide +kernel) rfl⟩
theorem fl_5_42 : Fld RX5 42 5 12 := ⟨by decide, by decide, rfl, mB 604 (by decide +kernel) rfl⟩
theorem fl_5_45 : Fld RX5 45 5 13 := ⟨by decide, by decide, rfl, mB 605 (by decide +kernel) rfl⟩
theorem fl_5_48 : Fld RX5 48 5 14 := ⟨by decide, by decide, rfl, mB 606 (by decide +kernel) rfl⟩
theorem fl_5_52 : Fld RX5 52 5 15 := ⟨by decide, by decide, rfl, mB 607 (by decide +kernel) rfl⟩
theorem fl_5_55 : Fld RX5 55 5 16 := ⟨by decide, by decide, rfl, mB 608 (by decide +kernel) rfl⟩
theorem fl_5_58 : Fld RX5 58 5 17 := ⟨by decide, by decide, rfl, mB 609 (by decide +kernel) rfl⟩
theorem fl_5_61 : Fld RX5 61 5 18 := ⟨by decide, by decide, rfl, mB 610 (by decide +kernel) rfl⟩
theorem fl_5_64 : Fld RX5 64 5 19 := ⟨by decide, by decide, rfl, mB 611 (by decide +kernel) rfl⟩
theorem fl_5_67 : Fld RX5 67 5 20 := ⟨by decide, by decide, rfl, mB 612 (by decide +kernel) rfl⟩
theorem fl_5_70 : Fld RX5 70 5 21 := ⟨by decide, by decide, rfl, mB 613 (by decide +kernel) rfl⟩
theorem fl_5_73 : Fld RX5 73 5 22 := ⟨by decide, by decide, rfl, mB 614 (by decide +kernel) rfl⟩
theorem fl_5_76 : Fld RX5 76 5 23 := ⟨by decide, by decide, rfl, mB 615 (by decide +kernel) rfl⟩
theorem fl_5_79 : Fld RX5 79 5 24 := ⟨by decide, by decide, rfl, mB 616 (by decide +kernel) rfl⟩
theorem fl_5_82 : Fld RX5 82 5 25 := ⟨by decide, by decide, rfl, mB 617 (by decide +kernel) rfl⟩
theorem fl_5_85 : Fld RX5 85 5 26 := ⟨by decide, by decide, rfl, mB 618 (by decide +kernel) rfl⟩
theorem fl_5_88 : Fld RX5 88 5 27 := ⟨by decide, by decide, rfl, mB 619 (by decide +kernel) rfl⟩
theorem fl_5_91 : Fld RX5 91 5 28 := ⟨by decide, by decide, rfl, mB 620 (by decide +kernel) rfl⟩
theorem fl_5_94 : Fld RX5 94 5 29 := ⟨by decide, by decide, rfl, mB 621 (by decide +kernel) rfl⟩
theorem fl_5_97 : Fld RX5 97 5 30 := ⟨by decide, by decide, rfl, mB 622 (by decide +kernel) rfl⟩
theorem fl_5_100 : Fld RX5 100 5 31 := ⟨by decide, by decide, rfl, mB 623 (by decide +kernel) rfl⟩
theorem fl_5_103 : Fld RX5 103 5 32 := ⟨by decide, by decide, rfl, mB 624 (by decide +kernel) rfl⟩
theorem fl_5_106 : Fld RX5 106 5 33 := ⟨by decide, by decide, rfl, mB 625 (by decide +kernel) rfl⟩
theorem fl_5_109 : Fld RX5 109 5 34 := ⟨by decide, by decide, rfl, mB 626 (by decide +kernel) rfl⟩
theorem fl_5_112 : Fld RX5 112 5 35 := ⟨by decide, by decide, rfl, mB 627 (by decide +kernel) rfl⟩
theorem fl_5_115 : Fld RX5 115 5 36 := ⟨by decide, by decide, rfl, mB 628 (by decide +kernel) rfl⟩
theorem fl_5_118 : Fld RX5 118 5 37 := ⟨by decide, by decide, rfl, mB 629 (by decide +kernel) rfl⟩
theorem fl_5_121 : Fld RX5 121 5 38 := ⟨by decide, by decide, rfl, mB 630 (by decide +kernel) rfl⟩
theorem fl_5_124 : Fld RX5 124 5 39 := ⟨by decide, by decide, rfl, mB 631 (by decide +kernel) rfl⟩
theorem fl_5_127 : Fld RX5 127 5 40 := ⟨by decide, by decide, rfl, mB 632 (by decide +kernel) rfl⟩
theorem fl_5_130 : Fld RX5 130 5 41 := ⟨by decide, by decide, rfl, mB 633 (by decide +kernel) rfl⟩
theorem fl_5_133 : Fld RX5 133 5 42 := ⟨by decide, by decide, rfl, mB 634 (by decide +kernel) rfl⟩
theorem fl_5_136 : Fld RX5 136 5 43 := ⟨by decide, by decide, rfl, mB 635 (by decide +kernel) rfl⟩
theorem fl_5_139 : Fld RX5 139 5 50 := ⟨by decide, by decide, rfl, mB 642 (by decide +kernel) rfl⟩
theorem fl_5_142 : Fld RX5 142 5 51 := ⟨by decide, by decide, rfl, mB 643 (by decide +kernel) rfl⟩
theorem fl_5_145 : Fld RX5 145 5 52 := ⟨by decide, by decide, rfl, mB 644 (by decide +kernel) rfl⟩
theorem fl_5_148 : Fld RX5 148 5 53 := ⟨by decide, by decide, rfl, mB 645 (by decide +kernel) rfl⟩
theorem fl_5_151 : Fld RX5 151 5 54 := ⟨by decide, by decide, rfl, mB 646 (by decide +kernel) rfl⟩
theorem fl_5_154 : Fld RX5 154 5 55 := ⟨by decide, by decide, rfl, mB 647 (by decide +kernel) rfl⟩
theorem fl_5_157 : Fld RX5 157 5 56 := ⟨by decide, by decide, rfl, mB 648 (by decide +kernel) rfl⟩
theorem fl_5_160 : Fld RX5 160 5 57 := ⟨by decide, by decide, rfl, mB 649 (by decide +kernel) rfl⟩
theorem fl_5_164 : Fld RX5 164 5 58 := ⟨by decide, by decide, rfl, mB 650 (by decide +kernel) rfl⟩
theorem fl_5_167 : Fld RX5 167 5 59 := ⟨by decide, by decide, rfl, mB 651 (by decide +kernel) rfl⟩
theorem fl_5_170 : Fld RX5 170 5 60 := ⟨by decide, by decide, rfl, mB 652 (by decide +kernel) rfl⟩
theorem fl_5_173 : Fld RX5 173 5 61 := ⟨by decide, by decide, rfl, mB 653 (by decide +kernel) rfl⟩
theorem fl_5_176 : Fld RX5 176 5 64 := ⟨by decide, by decide, rfl, mB 656 (by decide +kernel) rfl⟩
theorem fl_5_197 : Fld RX5 197 5 4 := ⟨by decide, by decide, rfl, mB 596 (by decide +kernel) rfl⟩
theorem fl_5_209 : Fld RX5 209 5 44 := ⟨by decide, by decide, rfl, mB 636 (by decide +kernel) rfl⟩
theorem fl_5_212 : Fld RX5 212 5 63 := ⟨by decide, by decide, rfl, mB 655 (by decide +kernel) rfl⟩
theorem fl_5_232 : Fld RX5 232 5 62 := ⟨by decide, by decide, rfl, mB 654 (by decide +kernel) rfl⟩
theorem fl_5_235 : Fld RX5 235 5 46 := ⟨by decide, by decide, rfl, mB 638 (by decide +kernel) rfl⟩
theorem fl_5_238 : Fld RX5 238 5 48 := ⟨by decide, by decide, rfl, mB 640 (by decide +kernel) rfl⟩
theorem fl_5_241 : Fld RX5 241 5 47 := ⟨by decide, by decide, rfl, mB 639 (by decide +kernel) rfl⟩
theorem fl_5_251 : Fld RX5 251 5 3 := ⟨by decide, by decide, rfl, mB 595 (by decide +kernel) rfl⟩
theorem fl_5_254 : Fld RX5 254 5 45 := ⟨by decide, by decide, rfl, mB 637 (by decide +kernel) rfl⟩
theorem fl_5_267 : Fld RX5 267 5 49 := ⟨by decide, by decide, rfl, mB 641 (by decide +kernel) rfl⟩
theorem fl_0_15 : Fld RX0 15 0 1 := ⟨by decide, by decide, rfl, mB 112 (by decide +kernel) rfl⟩
theorem fl_0_20 : Fld RX0 20 0 2 := ⟨by decide, by decide, rfl, mB 114 (by decide +kernel) rfl⟩
theorem fl_0_23 : Fld RX0 23 0 3 := ⟨by decide, by decide, rfl, mB 116 (by decide +kernel) rfl⟩
theorem fl_0_26 : Fld RX0 26 0 4 := ⟨by decide, by decide, rfl, mB 118 (by decide +kernel) rfl⟩
theorem fl_0_29 : Fld RX0 29 0 5 := ⟨by decide, by decide, rfl, mB 120 (by decide +kernel) rfl⟩
theorem fl_0_32 : Fld RX0 32 0 6 := ⟨by decide, by decide, rfl, mB 122 (by decide +kernel) rfl⟩
theorem fl_0_35 : Fld RX0 35 0 0 := ⟨by decide, by decide, rfl, mB 110 (by decide +kernel) rfl⟩
theorem fl_0_38 : Fld RX0 38 0 8 := ⟨by decide, by decide, rfl, mB 126 (by decide +kernel) rfl⟩
theorem fl_0_52 : Fld RX0 52 0 9 := ⟨by decide, by decide, rfl, mB 128 (by decide +kernel) rfl⟩
theorem fl_0_59 : Fld RX0 59 0 7 := ⟨by decide, by decide, rfl, mB 124 (by decide +kernel) rfl⟩
theorem fl_1_9 : Fld RX1 9 1 5 := ⟨by decide, by decide, rfl, mB 311 (by decide +kernel) rfl⟩
theorem fl_1_15 : Fld RX1 15 1 6 := ⟨by decide, by decide, rfl, mB 312 (by decide +kernel) rfl⟩
theorem fl_1_18 : Fld RX1 18 1 8 := ⟨by decide, by decide, rfl, mB 316 (by decide +kernel) rfl⟩
theorem fl_1_22 : Fld RX1 22 1 0 := ⟨by decide, by decide, rfl, mB 302 (by decide +kernel) rfl⟩
theorem fl_1_25 : Fld RX1 25 1 1 := ⟨by decide, by decide, rfl, mB 304 (by decide +kernel) rfl⟩
theorem fl_1_28 : Fld RX1 28 1 2 := ⟨by decide, by decide, rfl, mB 306 (by decide +kernel) rfl⟩
theorem fl_1_31 : Fld RX1 31 1 3 := ⟨by decide, by decide, rfl, mB 308 (by decide +kernel) rfl⟩
theorem fl_1_34 : Fld RX1 34 1 4 := ⟨by decide, by decide, rfl, mB 310 (by decide +kernel) rfl⟩
theorem fl_1_37 : Fld RX1 37 1 9 := ⟨by decide, by decide, rfl, mB 318 (by decide +kernel) rfl⟩
theorem fl_1_41 : Fld RX1 41 1 10 := ⟨by decide, by decide, rfl, mB 320 (by decide +kernel) rfl⟩
theorem fl_1_44 : Fld RX1 44 1 11 := ⟨by decide, by decide, rfl, mB 322 (by decide +kernel) rfl⟩
theorem fl_1_51 : Fld RX1 51 1 7 := ⟨by decide, by decide, rfl, mB 314 (by decide +kernel) rfl⟩
theorem fl_2_11 : Fld RX2 11 2 1 := ⟨by decide, by decide, rfl, mB 153 (by decide +kernel) rfl⟩
theorem fl_2_17 : Fld RX2 17 2 5 := ⟨by decide, by decide, rfl, mB 160 (by decide +kernel) rfl⟩
theorem fl_2_21 : Fld RX2 21 2 6 := ⟨by decide, by decide, rfl, mB 162 (by decide +kernel) rfl⟩
theorem fl_2_24 : Fld RX2 24 2 12 := ⟨by decide, by decide, rfl, mB 171 (by decide +kernel) rfl⟩
theorem fl_2_27 : Fld RX2 27 2 0 := ⟨by decide, by decide, rfl, mB 151 (by decide +kernel) rfl⟩
theorem fl_2_35 : Fld RX2 35 2 2 := ⟨by decide, by decide, rfl, mB 155 (by decide +kernel) rfl⟩
theorem fl_2_39 : Fld RX2 39 2 8 := ⟨by decide, by decide, rfl, mB 165 (by decide +kernel) rfl⟩
theorem fl_2_42 : Fld RX2 42 2 9 := ⟨by decide, by decide, rfl, mB 167 (by decide +kernel) rfl⟩
theorem fl_2_45 : Fld RX2 45 2 3 := ⟨by decide, by decide, rfl, mB 157 (by decide +kernel) rfl⟩
theorem fl_3_9 : Fld RX3 9 3 0 := ⟨by decide, by decide, rfl, mB 25 (by decide +kernel) rfl⟩
theorem fl_3_15 : Fld RX3 15 3 15 := ⟨by decide, by decide, rfl, mB 52 (by decide +kernel) rfl⟩
theorem fl_3_19 : Fld RX3 19 3 8 := ⟨by decide, by decide, rfl, mB 40 (by decide +kernel) rfl⟩
theorem fl_3_22 : Fld RX3 22 3 13 := ⟨by decide, by decide, rfl, mB 49 (by decide +kernel) rfl⟩
theorem fl_3_25 : Fld RX3 25 3 1 := ⟨by decide, by decide, rfl, mB 27 (by decide +kernel) rfl⟩
theorem fl_3_28 : Fld RX3 28 3 2 := ⟨by decide, by decide, rfl, mB 29 (by decide +kernel) rfl⟩
theorem fl_3_32 : Fld RX3 32 3 3 := ⟨by decide, by decide, rfl, mB 31 (by decide +kernel) rfl⟩
theorem fl_3_35 : Fld RX3 35 3 5 := ⟨by decide, by decide, rfl, mB 34 (by decide +kernel) rfl⟩
theorem fl_3_38 : Fld RX3 38 3 9 := ⟨by decide, by decide, rfl, mB 42 (by decide +kernel) rfl⟩
theorem fl_3_54 : Fld RX3 54 3 7 := ⟨by decide, by decide, rfl, mB 38 (by decide +kernel) rfl⟩
theorem fl_3_64 : Fld RX3 64 3 6 := ⟨by decide, by decide, rfl, mB 36 (by decide +kernel) rfl⟩
theorem fl_3_67 : Fld RX3 67 3 10 := ⟨by decide, by decide, rfl, mB 44 (by decide +kernel) rfl⟩
theorem fl_3_70 : Fld RX3 70 3 11 := ⟨by decide, by decide, rfl, mB 47 (by decide +kernel) rfl⟩
theorem rm_4_init_3_init : Rm K4_init K3_init := ⟨by decide, by decide⟩
theorem cl_4_31 : CalI RX4 31 K3_init 1 := ⟨⟨mB 21 (by decide +kernel) rfl, mB 2 (by decide +kernel) rfl, mB 23 (by decide +kernel) rfl, by decide +kernel, by decide +kernel, by decide +kernel⟩, rfl, rfl, mB 22 (by decide +kernel) rfl⟩
theorem rm_4_init_2_init : Rm K4_init K2_init := ⟨by decide, by decide⟩
theorem cl_4_40 : CalI RX4 40 K2_init 3 := ⟨⟨mB 94 (by decide +kernel) rfl, mB 3 (by decide +kernel) rfl, mB 96 (by decide +kernel) rfl, by decide +kernel, by decide +kernel, by decide +kernel⟩, rfl, rfl, mB 95 (by decide +kernel) rfl⟩
theorem rm_4_shape_4_isUntouched : Rm K4_shape K4_isUntouched := ⟨by decide, by decide⟩
theorem cl_4_43 : CalV RX4 43 K4_isUntouched 0 := ⟨⟨mB 250 (by decide +kernel) rfl, mB 1 (by decide +kernel) rfl, mB 253 (by decide +kernel) rfl, by decide +kernel, by decide +kernel, by decide +kernel⟩, mB 252 (by decide +kernel) rfl, mS 0 (q := (yX4_isUntouched, 14)) (by decide +kernel) rfl⟩
theorem rm_4_write_4_streamAt : Rm K4_write K4_streamAt := ⟨by decide, by decide⟩
theorem cl_4_68 : CalV RX4 68 K4_streamAt 1 := ⟨⟨mB 262 (by decide +kernel) rfl, mB 1 (by decide +kernel) rfl, mB 265 (by decide +kernel) rfl, by decide +kernel, by decide +kernel, by decide +kernel⟩, mB 264 (by decide +kernel) rfl, mS 1 (q := (yX4_streamAt, 14)) (by decide +kernel) rfl⟩
theorem rm_4_end_4_streamAt : Rm K4_end K4_streamAt := ⟨by decide, by decide⟩
theorem rm_4_cut_4_streamAt : Rm K4_cut K4_streamAt := ⟨by decide, by decide⟩
theorem rm_4_read_4_streamAt : Rm K4_read K4_streamAt := ⟨by decide, by decide⟩
theorem mw_4_91 : MathW RX4 91 Lib.Math.min.name Lib.Math.min.code 2 := ⟨mB 278 (by decide +kernel) rfl, mB 279 (by decide +kernel) rfl, mB 6 (by decide +kernel) rfl, mB 280 (by decide +kernel) rfl⟩
theorem rm_4_read_4_readBy : Rm K4_read K4_readBy := ⟨by decide, by decide⟩
theorem cl_4_100 : CalV RX4 100 K4_readBy 1 := ⟨⟨mB 281 (by decide +kernel) rfl, mB 1 (by decide +kernel) rfl, mB 284 (by decide +kernel) rfl, by decide +kernel, by decide +kernel, by decide +kernel⟩, mB 283 (by decide +kernel) rfl, mS 2 (q := (yX4_readBy, 14)) (by decide +kernel) rfl⟩
theorem rm_4_send_4_sideAt : Rm K4_send K4_sideAt := ⟨by decide, by decide⟩
theorem cl_4_110 : CalV RX4 110 K4_sideAt 1 := ⟨⟨mB 293 (by decide +kernel) rfl, mB 1 (by decide +kernel) rfl, mB 296 (by decide +kernel) rfl, by decide +kernel, by decide +kernel, by decide +kernel⟩, mB 295 (by decide +kernel) rfl, mS 3 (q := (yX4_sideAt, 14)) (by decide +kernel) rfl⟩
theorem rm_4_send_1_init : Rm K4_send K1_init := ⟨by decide, by decide⟩
theorem cl_4_135 : CalI RX4 135 K1_init 5 := ⟨⟨mB 298 (by decide +kernel) rfl, mB 7 (by decide +kernel) rfl, mB 300 (by decide +kernel) rfl, by decide +kernel, by decide +kernel, by decide +kernel⟩, rfl, rfl, mB 299 (by decide +kernel) rfl⟩
theorem rm_4_send_4_fill : Rm K4_send K4_fill := ⟨by decide, by decide⟩
theorem cl_4_138 : CalV RX4 138 K4_fill 2 := ⟨⟨mB 353 (by decide +kernel) rfl, mB 1 (by decide +kernel) rfl, mB 356 (by decide +kernel) rfl, by decide +kernel, by decide +kernel, by decide +kernel⟩, mB 355 (by decide +kernel) rfl, mS 4 (q := (yX4_fill, 14)) (by decide +kernel) rfl⟩
theorem rm_4_send_4_putUnderWay : Rm K4_send K4_putUnderWay := ⟨by decide, by decide⟩
theorem cl_4_145 : CalV RX4 145 K4_putUnderWay 2 := ⟨⟨mB 443 (by decide +kernel) rfl, mB 1 (by decide +kernel) rfl, mB 446 (by decide +kernel) rfl, by decide +kernel, by decide +kernel, by decide +kernel⟩, mB 445 (by decide +kernel) rfl, mS 13 (q := (yX4_putUnderWay, 14)) (by decide +kernel) rfl⟩
theorem rm_4_come_4_underWayAt : Rm K4_come K4_underWayAt := ⟨by decide, by decide⟩
theorem cl_4_151 : CalV RX4 151 K4_underWayAt 1 := ⟨⟨mB 451 (by decide +kernel) rfl, mB 1 (by decide +kernel) rfl, mB 454 (by decide +kernel) rfl, by decide +kernel, by decide +kernel, by decide +kernel⟩, mB 453 (by decide +kernel) rfl, mS 14 (q := (yX4_underWayAt, 14)) (by decide +kernel) rfl⟩
theorem rm_4_come_4_takeOffNet : Rm K4_come K4_takeOffNet := ⟨by decide, by decide⟩
theorem cl_4_155 : CalV RX4 155 K4_takeOffNet 1 := ⟨⟨mB 455 (by decide +kernel) rfl, mB 1 (by decide +kernel) rfl, mB 458 (by decide +kernel) rfl, by decide +kernel, by decide +kernel, by decide +kernel⟩, mB 457 (by decide +kernel) rfl, mS 15 (q := (yX4_takeOffNet, 14)) (by decide +kernel) rfl⟩
theorem rm_4_come_4_lookAtAddress : Rm K4_come K4_lookAtAddress := ⟨by decide, by decide⟩
theorem cl_4_174 : CalV RX4 174 K4_lookAtAddress 2 := ⟨⟨mB 459 (by decide +kernel) rfl, mB 1 (by decide +kernel) rfl, mB 462 (by decide +kernel) rfl, by decide +kernel, by decide +kernel, by decide +kernel⟩, mB 461 (by decide +kernel) rfl, mS 16 (q := (yX4_lookAtAddress, 14)) (by decide +kernel) rfl⟩
theorem mw_4_180 : MathW RX4 180 Lib.Math.max.name Lib.Math.max.code 2 := ⟨mB 420 (by decide +kernel) rfl, mB 421 (by decide +kernel) rfl, mB 6 (by decide +kernel) rfl, mB 422 (by decide +kernel) rfl⟩
theorem rm_4_come_4_takeParts : Rm K4_come K4_takeParts := ⟨by decide, by decide⟩
theorem cl_4_183 : CalV RX4 183 K4_takeParts 2 := ⟨⟨mB 464 (by decide +kernel) rfl, mB 1 (by decide +kernel) rfl, mB 467 (by decide +kernel) rfl, by decide +kernel, by decide +kernel, by decide +kernel⟩, mB 466 (by decide +kernel) rfl, mS 17 (q := (yX4_takeParts, 14)) (by decide +kernel) rfl⟩
theorem rm_4_drop_4_underWayAt : Rm K4_drop K4_underWayAt := ⟨by decide, by decide⟩
theorem rm_4_drop_4_takeOffNet : Rm K4_drop K4_takeOffNet := ⟨by decide, by decide⟩
theorem rm_4_twice_4_underWayAt : Rm K4_twice K4_underWayAt := ⟨by decide, by decide⟩
theorem rm_4_tick_4_lookForLost : Rm K4_tick K4_lookForLost := ⟨by decide, by decide⟩
theorem cl_4_186 : CalV RX4 186 K4_lookForLost 1 := ⟨⟨mB 499 (by decide +kernel) rfl, mB 1 (by decide +kernel) rfl, mB 502 (by decide +kernel) rfl, by decide +kernel, by decide +kernel, by decide +kernel⟩, mB 501 (by decide +kernel) rfl, mS 20 (q := (yX4_lookForLost, 14)) (by decide +kernel) rfl⟩
theorem rm_4_tick_0_probeIfLate : Rm K4_tick K0_probeIfLate := ⟨by decide, by decide⟩
theorem cl_4_190 : CalV RX4 190 K0_probeIfLate 1 := ⟨⟨mB 536 (by decide +kernel) rfl, mB 4 (by decide +kernel) rfl, mB 539 (by decide +kernel) rfl, by decide +kernel, by decide +kernel, by decide +kernel⟩, mB 537 (by decide +kernel) rfl, mB 538 (by decide +kernel) rfl⟩
theorem rm_4_stream_4_streamAt : Rm K4_stream K4_streamAt := ⟨by decide, by decide⟩
theorem rm_4_stream_4_flag : Rm K4_stream K4_flag := ⟨by decide, by decide⟩
theorem cl_4_193 : CalS RX4 193 K4_flag 1 := ⟨⟨mB 549 (by decide +kernel) rfl, mB 1 (by decide +kernel) rfl, mB 551 (by decide +kernel) rfl, by decide +kernel, by decide +kernel, by decide +kernel⟩, mB 550 (by decide +kernel) rfl⟩
theorem rm_4_state_4_streamAt : Rm K4_state K4_streamAt := ⟨by decide, by decide⟩
theorem rm_4_side_4_sideAt : Rm K4_side K4_sideAt := ⟨by decide, by decide⟩
theorem rm_4_side_4_flag : Rm K4_side K4_flag := ⟨by decide, by decide⟩
theorem rm_4_side_4_countedOf : Rm K4_side K4_countedOf := ⟨by decide, by decide⟩
theorem cl_4_248 : CalV RX4 248 K4_countedOf 1 := ⟨⟨mB 416 (by decide +kernel) rfl, mB 1 (by decide +kernel) rfl, mB 419 (by decide +kernel) rfl, by decide +kernel, by decide +kernel, by decide +kernel⟩, mB 418 (by decide +kernel) rfl, mS 12 (q := (yX4_countedOf, 14)) (by decide +kernel) rfl⟩
theorem rm_4_packet_4_packetOf : Rm K4_packet K4_packetOf := ⟨by decide, by decide⟩
theorem cl_4_251 : CalV RX4 251 K4_packetOf 2 := ⟨⟨mB 564 (by decide +kernel) rfl, mB 1 (by decide +kernel) rfl, mB 567 (by decide +kernel) rfl, by decide +kernel, by decide +kernel, by decide +kernel⟩, mB 566 (by decide +kernel) rfl, mS 22 (q := (yX4_packetOf, 14)) (by decide +kernel) rfl⟩
theorem rm_4_packet_4_flag : Rm K4_packet K4_flag := ⟨by decide, by decide⟩
theorem rm_4_part_4_packetOf : Rm K4_part K4_packetOf := ⟨by decide, by decide⟩
theorem rm_4_part_1_partAt : Rm K4_part K1_partAt := ⟨by decide, by decide⟩
theorem cl_4_265 : CalV RX4 265 K1_partAt 2 := ⟨⟨mB 468 (by decide +kernel) rfl, mB 7 (by decide +kernel) rfl, mB 471 (by decide +kernel) rfl, by decide +kernel, by decide +kernel, by decide +kernel⟩, mB 469 (by decide +kernel) rfl, mB 470 (by decide +kernel) rfl⟩
theorem rm_4_net_4_underWayAt : Rm K4_net K4_underWayAt := ⟨by decide, by decide⟩
theorem rm_4_told_4_flag : Rm K4_told K4_flag := ⟨by decide, by decide⟩
theorem rm_4_packetOf_4_sideAt : Rm K4_packetOf K4_sideAt := ⟨by decide, by decide⟩
theorem rm_4_packetOf_2_packetAt : Rm K4_packetOf K2_packetAt := ⟨by decide, by decide⟩
theorem cl_4_272 : CalV RX4 272 K2_packetAt 1 := ⟨⟨mB 361 (by decide +kernel) rfl, mB 3 (by decide +kernel) rfl, mB 364 (by decide +kernel) rfl, by decide +kernel, by decide +kernel, by decide +kernel⟩, mB 362 (by decide +kernel) rfl, mB 363 (by decide +kernel) rfl⟩
theorem rm_4_isUntouched_3_isUntouched : Rm K4_isUntouched K3_isUntouched := ⟨by decide, by decide⟩
theorem cl_4_275 : CalV RX4 275 K3_isUntouched 0 := ⟨⟨mB 254 (by decide +kernel) rfl, mB 2 (by decide +kernel) rfl, mB 257 (by decide +kernel) rfl, by decide +kernel, by decide +kernel, by decide +kernel⟩, mB 255 (by decide +kernel) rfl, mB 256 (by decide +kernel) rfl⟩
theorem rm_4_fill_4_addTold : Rm K4_fill K4_addTold := ⟨by decide, by decide⟩
theorem cl_4_277 : CalV RX4 277 K4_addTold 2 := ⟨⟨mB 357 (by decide +kernel) rfl, mB 1 (by decide +kernel) rfl, mB 360 (by decide +kernel) rfl, by decide +kernel, by decide +kernel, by decide +kernel⟩, mB 359 (by decide +kernel) rfl, mS 5 (q := (yX4_addTold, 14)) (by decide +kernel) rfl⟩
theorem rm_4_fill_0_isShut : Rm K4_fill K0_isShut := ⟨by decide, by decide⟩
theorem cl_4_280 : CalV RX4 280 K0_isShut 1 := ⟨⟨mB 376 (by decide +kernel) rfl, mB 4 (by decide +kernel) rfl, mB 379 (by decide +kernel) rfl, by decide +kernel, by decide +kernel, by decide +kernel⟩, mB 377 (by decide +kernel) rfl, mB 378 (by decide +kernel) rfl⟩
theorem rm_4_fill_4_addAnswerAndAsk : Rm K4_fill K4_addAnswerAndAsk := ⟨by decide, by decide⟩
theorem cl_4_284 : CalV RX4 284 K4_addAnswerAndAsk 2 := ⟨⟨mB 380 (by decide +kernel) rfl, mB 1 (by decide +kernel) rfl, mB 383 (by decide +kernel) rfl, by decide +kernel, by decide +kernel, by decide +kernel⟩, mB 382 (by decide +kernel) rfl, mS 6 (q := (yX4_addAnswerAndAsk, 14)) (by decide +kernel) rfl⟩
theorem rm_4_fill_4_addBounds : Rm K4_fill K4_addBounds := ⟨by decide, by decide⟩
theorem cl_4_287 : CalV RX4 287 K4_addBounds 2 := ⟨⟨mB 384 (by decide +kernel) rfl, mB 1 (by decide +kernel) rfl, mB 387 (by decide +kernel) rfl, by decide +kernel, by decide +kernel, by decide +kernel⟩, mB 386 (by decide +kernel) rfl, mS 7 (q := (yX4_addBounds, 14)) (by decide +kernel) rfl⟩
theorem rm_4_fill_4_addCutOffs : Rm K4_fill K4_addCutOffs := ⟨by decide, by decide⟩
theorem cl_4_290 : CalV RX4 290 K4_addCutOffs 2 := ⟨⟨mB 388 (by decide +kernel) rfl, mB 1 (by decide +kernel) rfl, mB 391 (by decide +kernel) rfl, by decide +kernel, by decide +kernel, by decide +kernel⟩, mB 390 (by decide +kernel) rfl, mS 8 (q := (yX4_addCutOffs, 14)) (by decide +kernel) rfl⟩
theorem rm_4_fill_4_addBytes : Rm K4_fill K4_addBytes := ⟨by decide, by decide⟩
theorem cl_4_293 : CalV RX4 293 K4_addBytes 2 := ⟨⟨mB 392 (by decide +kernel) rfl, mB 1 (by decide +kernel) rfl, mB 395 (by decide +kernel) rfl, by decide +kernel, by decide +kernel, by decide +kernel⟩, mB 394 (by decide +kernel) rfl, mS 9 (q := (yX4_addBytes, 14)) (by decide +kernel) rfl⟩
theorem rm_4_fill_1_add : Rm K4_fill K1_add := ⟨by decide, by decide⟩
theorem cl_4_296 : CalV RX4 296 K1_add 4 := ⟨⟨mB 365 (by decide +kernel) rfl, mB 7 (by decide +kernel) rfl, mB 368 (by decide +kernel) rfl, by decide +kernel, by decide +kernel, by decide +kernel⟩, mB 366 (by decide +kernel) rfl, mB 367 (by decide +kernel) rfl⟩
theorem rm_4_addTold_2_packetAt : Rm K4_addTold K2_packetAt := ⟨by decide, by decide⟩
theorem rm_4_addTold_1_add : Rm K4_addTold K1_add := ⟨by decide, by decide⟩
theorem rm_4_addAnswerAndAsk_1_add : Rm K4_addAnswerAndAsk K1_add := ⟨by decide, by decide⟩
theorem rm_4_addBounds_1_add : Rm K4_addBounds K1_add := ⟨by decide, by decide⟩
theorem rm_4_addBounds_4_readBy : Rm K4_addBounds K4_readBy := ⟨by decide, by decide⟩
theorem rm_4_addCutOffs_1_add : Rm K4_addCutOffs K1_add := ⟨by decide, by decide⟩
theorem rm_4_addBytes_4_addBytesOf : Rm K4_addBytes K4_addBytesOf := ⟨by decide, by decide⟩
theorem cl_4_309 : CalV RX4 309 K4_addBytesOf 3 := ⟨⟨mB 396 (by decide +kernel) rfl, mB 1 (by decide +kernel) rfl, mB 399 (by decide +kernel) rfl, by decide +kernel, by decide +kernel, by decide +kernel⟩, mB 398 (by decide +kernel) rfl, mS 10 (q := (yX4_addBytesOf, 14)) (by decide +kernel) rfl⟩
theorem rm_4_addBytesOf_4_streamAt : Rm K4_addBytesOf K4_streamAt := ⟨by decide, by decide⟩
theorem rm_4_addBytesOf_3_firstAgain : Rm K4_addBytesOf K3_firstAgain := ⟨by decide, by decide⟩
theorem cl_4_313 : CalV RX4 313 K3_firstAgain 0 := ⟨⟨mB 400 (by decide +kernel) rfl, mB 2 (by decide +kernel) rfl, mB 403 (by decide +kernel) rfl, by decide +kernel, by decide +kernel, by decide +kernel⟩, mB 401 (by decide +kernel) rfl, mB 402 (by decide +kernel) rfl⟩
theorem rm_4_addBytesOf_3_countAgainFrom : Rm K4_addBytesOf K3_countAgainFrom := ⟨by decide, by decide⟩
theorem cl_4_317 : CalV RX4 317 K3_countAgainFrom 1 := ⟨⟨mB 408 (by decide +kernel) rfl, mB 2 (by decide +kernel) rfl, mB 411 (by decide +kernel) rfl, by decide +kernel, by decide +kernel, by decide +kernel⟩, mB 409 (by decide +kernel) rfl, mB 410 (by decide +kernel) rfl⟩
theorem rm_4_addBytesOf_4_newBytesOf : Rm K4_addBytesOf K4_newBytesOf := ⟨by decide, by decide⟩
theorem cl_4_321 : CalV RX4 321 K4_newBytesOf 2 := ⟨⟨mB 412 (by decide +kernel) rfl, mB 1 (by decide +kernel) rfl, mB 415 (by decide +kernel) rfl, by decide +kernel, by decide +kernel, by decide +kernel⟩, mB 414 (by decide +kernel) rfl, mS 11 (q := (yX4_newBytesOf, 14)) (by decide +kernel) rfl⟩
theorem rm_4_addBytesOf_1_roomLeft : Rm K4_addBytesOf K1_roomLeft := ⟨by decide, by decide⟩
theorem cl_4_325 : CalV RX4 325 K1_roomLeft 0 := ⟨⟨mB 423 (by decide +kernel) rfl, mB 7 (by decide +kernel) rfl, mB 375 (by decide +kernel) rfl, by decide +kernel, by decide +kernel, by decide +kernel⟩, mB 373 (by decide +kernel) rfl, mB 374 (by decide +kernel) rfl⟩
theorem rm_4_addBytesOf_1_weightOf : Rm K4_addBytesOf K1_weightOf := ⟨by decide, by decide⟩
theorem cl_4_328 : CalS RX4 328 K1_weightOf 2 := ⟨⟨mB 424 (by decide +kernel) rfl, mB 7 (by decide +kernel) rfl, mB 371 (by decide +kernel) rfl, by decide +kernel, by decide +kernel, by decide +kernel⟩, mB 370 (by decide +kernel) rfl⟩
theorem rm_4_addBytesOf_3_isEndDue : Rm K4_addBytesOf K3_isEndDue := ⟨by decide, by decide⟩
theorem cl_4_331 : CalV RX4 331 K3_isEndDue 0 := ⟨⟨mB 425 (by decide +kernel) rfl, mB 2 (by decide +kernel) rfl, mB 428 (by decide +kernel) rfl, by decide +kernel, by decide +kernel, by decide +kernel⟩, mB 426 (by decide +kernel) rfl, mB 427 (by decide +kernel) rfl⟩
theorem rm_4_addBytesOf_3_markSent : Rm K4_addBytesOf K3_markSent := ⟨by decide, by decide⟩
theorem cl_4_334 : CalV RX4 334 K3_markSent 2 := ⟨⟨mB 429 (by decide +kernel) rfl, mB 2 (by decide +kernel) rfl, mB 432 (by decide +kernel) rfl, by decide +kernel, by decide +kernel, by decide +kernel⟩, mB 430 (by decide +kernel) rfl, mB 431 (by decide +kernel) rfl⟩
theorem rm_4_addBytesOf_1_add : Rm K4_addBytesOf K1_add := ⟨by decide, by decide⟩
theorem rm_4_newBytesOf_4_countedOf : Rm K4_newBytesOf K4_countedOf := ⟨by decide, by decide⟩
theorem rm_4_lookAtAddress_0_startOver : Rm K4_lookAtAddress K0_startOver := ⟨by decide, by decide⟩
theorem cl_4_344 : CalV RX4 344 K0_startOver 2 := ⟨⟨mB 463 (by decide +kernel) rfl, mB 4 (by decide +kernel) rfl, mB 108 (by decide +kernel) rfl, by decide +kernel, by decide +kernel, by decide +kernel⟩, mB 106 (by decide +kernel) rfl, mB 107 (by decide +kernel) rfl⟩
theorem rm_4_takeParts_1_partAt : Rm K4_takeParts K1_partAt := ⟨by decide, by decide⟩
theorem rm_4_takeParts_4_streamAt : Rm K4_takeParts K4_streamAt := ⟨by decide, by decide⟩
theorem rm_4_takeParts_4_takeTold : Rm K4_takeParts K4_takeTold := ⟨by decide, by decide⟩
theorem cl_4_347 : CalV RX4 347 K4_takeTold 2 := ⟨⟨mB 472 (by decide +kernel) rfl, mB 1 (by decide +kernel) rfl, mB 475 (by decide +kernel) rfl, by decide +kernel, by decide +kernel, by decide +kernel⟩, mB 474 (by decide +kernel) rfl, mS 18 (q := (yX4_takeTold, 14)) (by decide +kernel) rfl⟩
theorem rm_4_takeParts_3_markCame : Rm K4_takeParts K3_markCame := ⟨by decide, by decide⟩
theorem cl_4_350 : CalV RX4 350 K3_markCame 2 := ⟨⟨mB 520 (by decide +kernel) rfl, mB 2 (by decide +kernel) rfl, mB 523 (by decide +kernel) rfl, by decide +kernel, by decide +kernel, by decide +kernel⟩, mB 521 (by decide +kernel) rfl, mB 522 (by decide +kernel) rfl⟩
theorem rm_4_takeTold_2_packetAt : Rm K4_takeTold K2_packetAt := ⟨by decide, by decide⟩
theorem rm_4_takeTold_4_settle : Rm K4_takeTold K4_settle := ⟨by decide, by decide⟩
theorem cl_4_353 : CalV RX4 353 K4_settle 2 := ⟨⟨mB 476 (by decide +kernel) rfl, mB 1 (by decide +kernel) rfl, mB 479 (by decide +kernel) rfl, by decide +kernel, by decide +kernel, by decide +kernel⟩, mB 478 (by decide +kernel) rfl, mS 19 (q := (yX4_settle, 14)) (by decide +kernel) rfl⟩
theorem rm_4_takeTold_0_measure : Rm K4_takeTold K0_measure := ⟨by decide, by decide⟩
theorem cl_4_356 : CalV RX4 356 K0_measure 1 := ⟨⟨mB 492 (by decide +kernel) rfl, mB 4 (by decide +kernel) rfl, mB 495 (by decide +kernel) rfl, by decide +kernel, by decide +kernel, by decide +kernel⟩, mB 493 (by decide +kernel) rfl, mB 494 (by decide +kernel) rfl⟩
theorem rm_4_takeTold_4_lookForLost : Rm K4_takeTold K4_lookForLost := ⟨by decide, by decide⟩
theorem rm_4_settle_1_isInFlight : Rm K4_settle K1_isInFlight := ⟨by decide, by decide⟩
theorem cl_4_359 : CalV RX4 359 K1_isInFlight 0 := ⟨⟨mB 480 (by decide +kernel) rfl, mB 7 (by decide +kernel) rfl, mB 483 (by decide +kernel) rfl, by decide +kernel, by decide +kernel, by decide +kernel⟩, mB 481 (by decide +kernel) rfl, mB 482 (by decide +kernel) rfl⟩
theorem rm_4_settle_0_grow : Rm K4_settle K0_grow := ⟨by decide, by decide⟩
theorem cl_4_362 : CalV RX4 362 K0_grow 2 := ⟨⟨mB 484 (by decide +kernel) rfl, mB 4 (by decide +kernel) rfl, mB 487 (by decide +kernel) rfl, by decide +kernel, by decide +kernel, by decide +kernel⟩, mB 485 (by decide +kernel) rfl, mB 486 (by decide +kernel) rfl⟩
theorem rm_4_settle_1_partAt : Rm K4_settle K1_partAt := ⟨by decide, by decide⟩
theorem rm_4_settle_4_streamAt : Rm K4_settle K4_streamAt := ⟨by decide, by decide⟩
theorem rm_4_settle_3_markArrived : Rm K4_settle K3_markArrived := ⟨by decide, by decide⟩
theorem cl_4_365 : CalV RX4 365 K3_markArrived 2 := ⟨⟨mB 488 (by decide +kernel) rfl, mB 2 (by decide +kernel) rfl, mB 491 (by decide +kernel) rfl, by decide +kernel, by decide +kernel, by decide +kernel⟩, mB 489 (by decide +kernel) rfl, mB 490 (by decide +kernel) rfl⟩
theorem rm_4_lookForLost_0_limit : Rm K4_lookForLost K0_limit := ⟨by decide, by decide⟩
theorem cl_4_368 : CalV RX4 368 K0_limit 0 := ⟨⟨mB 503 (by decide +kernel) rfl, mB 4 (by decide +kernel) rfl, mB 506 (by decide +kernel) rfl, by decide +kernel, by decide +kernel, by decide +kernel⟩, mB 504 (by decide +kernel) rfl, mB 505 (by decide +kernel) rfl⟩
theorem rm_4_lookForLost_2_packetAt : Rm K4_lookForLost K2_packetAt := ⟨by decide, by decide⟩
theorem rm_4_lookForLost_1_isInFlight : Rm K4_lookForLost K1_isInFlight := ⟨by decide, by decide⟩
theorem rm_4_lookForLost_4_lose : Rm K4_lookForLost K4_lose := ⟨by decide, by decide⟩
theorem cl_4_374 : CalV RX4 374 K4_lose 2 := ⟨⟨mB 508 (by decide +kernel) rfl, mB 1 (by decide +kernel) rfl, mB 511 (by decide +kernel) rfl, by decide +kernel, by decide +kernel, by decide +kernel⟩, mB 510 (by decide +kernel) rfl, mS 21 (q := (yX4_lose, 14)) (by decide +kernel) rfl⟩
theorem rm_4_lose_1_partAt : Rm K4_lose K1_partAt := ⟨by decide, by decide⟩
theorem rm_4_lose_4_streamAt : Rm K4_lose K4_streamAt := ⟨by decide, by decide⟩
theorem rm_4_lose_3_markAgain : Rm K4_lose K3_markAgain := ⟨by decide, by decide⟩
theorem cl_4_377 : CalV RX4 377 K3_markAgain 2 := ⟨⟨mB 512 (by decide +kernel) rfl, mB 2 (by decide +kernel) rfl, mB 515 (by decide +kernel) rfl, by decide +kernel, by decide +kernel, by decide +kernel⟩, mB 513 (by decide +kernel) rfl, mB 514 (by decide +kernel) rfl⟩
theorem rm_4_lose_0_fallBack : Rm K4_lose K0_fallBack := ⟨by decide, by decide⟩
theorem cl_4_380 : CalV RX4 380 K0_fallBack 2 := ⟨⟨mB 516 (by decide +kernel) rfl, mB 4 (by decide +kernel) rfl, mB 519 (by decide +kernel) rfl, by decide +kernel, by decide +kernel, by decide +kernel⟩, mB 517 (by decide +kernel) rfl, mB 518 (by decide +kernel) rfl⟩
theorem rm_5_init_5_begin : Rm K5_init K5_begin := ⟨by decide, by decide⟩
theorem cl_5_179 : CalV RX5 179 K5_begin 0 := ⟨⟨mB 587 (by decide +kernel) rfl, mB 5 (by decide +kernel) rfl, mB 590 (by decide +kernel) rfl, by decide +kernel, by decide +kernel, by decide +kernel⟩, mB 589 (by decide +kernel) rfl, mS 23 (q := (yX5_begin, 65)) (by decide +kernel) rfl⟩
theorem rm_5_isStream_5_in : Rm K5_isStream K5_in := ⟨by decide, by decide⟩
theorem cl_5_185 : CalS RX5 185 K5_in 3 := ⟨⟨mB 795 (by decide +kernel) rfl, mB 5 (by decide +kernel) rfl, mB 797 (by decide +kernel) rfl, by decide +kernel, by decide +kernel, by decide +kernel⟩, mB 796 (by decide +kernel) rfl⟩
theorem rm_5_isSide_5_in : Rm K5_isSide K5_in := ⟨by decide, by decide⟩
theorem rm_5_shape_5_in : Rm K5_shape K5_in := ⟨by decide, by decide⟩
theorem rm_5_shape_5_begin : Rm K5_shape K5_begin := ⟨by decide, by decide⟩
theorem rm_5_write_5_isStream : Rm K5_write K5_isStream := ⟨by decide, by decide⟩
theorem cl_5_201 : CalS RX5 201 K5_isStream 1 := ⟨⟨mB 804 (by decide +kernel) rfl, mB 5 (by decide +kernel) rfl, mB 806 (by decide +kernel) rfl, by decide +kernel, by decide +kernel, by decide +kernel⟩, mB 805 (by decide +kernel) rfl⟩
theorem rm_5_write_5_in : Rm K5_write K5_in := ⟨by decide, by decide⟩
theorem rm_5_end_5_isStream : Rm K5_end K5_isStream := ⟨by decide, by decide⟩
theorem rm_5_cut_5_isStream : Rm K5_cut K5_isStream := ⟨by decide, by decide⟩
theorem rm_5_read_5_isStream : Rm K5_read K5_isStream := ⟨by decide, by decide⟩
theorem rm_5_read_5_in : Rm K5_read K5_in := ⟨by decide, by decide⟩
theorem rm_5_read_5_allRead : Rm K5_read K5_allRead := ⟨by decide, by decide⟩
theorem cl_5_205 : CalV RX5 205 K5_allRead 1 := ⟨⟨mB 820 (by decide +kernel) rfl, mB 5 (by decide +kernel) rfl, mB 823 (by decide +kernel) rfl, by decide +kernel, by decide +kernel, by decide +kernel⟩, mB 822 (by decide +kernel) rfl, mS 24 (q := (yX5_allRead, 65)) (by decide +kernel) rfl⟩
theorem rm_5_putTold_5_at : Rm K5_putTold K5_at := ⟨by decide, by decide⟩
theorem cl_5_215 : CalV RX5 215 K5_at 2 := ⟨⟨mB 835 (by decide +kernel) rfl, mB 5 (by decide +kernel) rfl, mB 838 (by decide +kernel) rfl, by decide +kernel, by decide +kernel, by decide +kernel⟩, mB 837 (by decide +kernel) rfl, mS 25 (q := (yX5_at, 65)) (by decide +kernel) rfl⟩
theorem rm_5_putTold_5_put : Rm K5_putTold K5_put := ⟨by decide, by decide⟩
theorem cl_5_219 : CalV RX5 219 K5_put 5 := ⟨⟨mB 843 (by decide +kernel) rfl, mB 5 (by decide +kernel) rfl, mB 846 (by decide +kernel) rfl, by decide +kernel, by decide +kernel, by decide +kernel⟩, mB 845 (by decide +kernel) rfl, mS 27 (q := (yX5_put, 65)) (by decide +kernel) rfl⟩
theorem rm_5_putBounds_5_put : Rm K5_putBounds K5_put := ⟨by decide, by decide⟩
theorem rm_5_putBounds_5_allRead : Rm K5_putBounds K5_allRead := ⟨by decide, by decide⟩
theorem rm_5_putBytes_5_firstAgain : Rm K5_putBytes K5_firstAgain := ⟨by decide, by decide⟩
theorem cl_5_223 : CalV RX5 223 K5_firstAgain 1 := ⟨⟨mB 859 (by decide +kernel) rfl, mB 5 (by decide +kernel) rfl, mB 862 (by decide +kernel) rfl, by decide +kernel, by decide +kernel, by decide +kernel⟩, mB 861 (by decide +kernel) rfl, mS 31 (q := (yX5_firstAgain, 65)) (by decide +kernel) rfl⟩
theorem rm_5_putBytes_5_counted : Rm K5_putBytes K5_counted := ⟨by decide, by decide⟩
theorem cl_5_226 : CalV RX5 226 K5_counted 1 := ⟨⟨mB 863 (by decide +kernel) rfl, mB 5 (by decide +kernel) rfl, mB 866 (by decide +kernel) rfl, by decide +kernel, by decide +kernel, by decide +kernel⟩, mB 865 (by decide +kernel) rfl, mS 32 (q := (yX5_counted, 65)) (by decide +kernel) rfl⟩
theorem rm_5_putBytes_5_put : Rm K5_putBytes K5_put := ⟨by decide, by decide⟩
theorem rm_5_send_5_isSide : Rm K5_send K5_isSide := ⟨by decide, by decide⟩
theorem cl_5_229 : CalS RX5 229 K5_isSide 1 := ⟨⟨mB 832 (by decide +kernel) rfl, mB 5 (by decide +kernel) rfl, mB 834 (by decide +kernel) rfl, by decide +kernel, by decide +kernel, by decide +kernel⟩, mB 833 (by decide +kernel) rfl⟩
theorem rm_5_send_5_at : Rm K5_send K5_at := ⟨by decide, by decide⟩
theorem rm_5_send_5_putTold : Rm K5_send K5_putTold := ⟨by decide, by decide⟩
theorem cl_5_244 : CalV RX5 244 K5_putTold 1 := ⟨⟨mB 839 (by decide +kernel) rfl, mB 5 (by decide +kernel) rfl, mB 842 (by decide +kernel) rfl, by decide +kernel, by decide +kernel, by decide +kernel⟩, mB 841 (by decide +kernel) rfl, mS 26 (q := (yX5_putTold, 65)) (by decide +kernel) rfl⟩
theorem rm_5_send_5_putRest : Rm K5_send K5_putRest := ⟨by decide, by decide⟩
theorem cl_5_248 : CalV RX5 248 K5_putRest 1 := ⟨⟨mB 847 (by decide +kernel) rfl, mB 5 (by decide +kernel) rfl, mB 850 (by decide +kernel) rfl, by decide +kernel, by decide +kernel, by decide +kernel⟩, mB 849 (by decide +kernel) rfl, mS 28 (q := (yX5_putRest, 65)) (by decide +kernel) rfl⟩
theorem rm_5_putRest_5_put : Rm K5_putRest K5_put := ⟨by decide, by decide⟩
theorem rm_5_putRest_5_putBounds : Rm K5_putRest K5_putBounds := ⟨by decide, by decide⟩
theorem cl_5_257 : CalV RX5 257 K5_putBounds 1 := ⟨⟨mB 851 (by decide +kernel) rfl, mB 5 (by decide +kernel) rfl, mB 854 (by decide +kernel) rfl, by decide +kernel, by decide +kernel, by decide +kernel⟩, mB 853 (by decide +kernel) rfl, mS 29 (q := (yX5_putBounds, 65)) (by decide +kernel) rfl⟩
theorem rm_5_putRest_5_putBytes : Rm K5_putRest K5_putBytes := ⟨by decide, by decide⟩
theorem cl_5_260 : CalV RX5 260 K5_putBytes 2 := ⟨⟨mB 855 (by decide +kernel) rfl, mB 5 (by decide +kernel) rfl, mB 858 (by decide +kernel) rfl, by decide +kernel, by decide +kernel, by decide +kernel⟩, mB 857 (by decide +kernel) rfl, mS 30 (q := (yX5_putBytes, 65)) (by decide +kernel) rfl⟩
theorem rm_5_come_5_in : Rm K5_come K5_in := ⟨by decide, by decide⟩
theorem rm_5_come_5_takeOut : Rm K5_come K5_takeOut := ⟨by decide, by decide⟩
theorem cl_5_264 : CalV RX5 264 K5_takeOut 1 := ⟨⟨mB 871 (by decide +kernel) rfl, mB 5 (by decide +kernel) rfl, mB 874 (by decide +kernel) rfl, by decide +kernel, by decide +kernel, by decide +kernel⟩, mB 873 (by decide +kernel) rfl, mS 33 (q := (yX5_takeOut, 65)) (by decide +kernel) rfl⟩
theorem rm_5_come_5_at : Rm K5_come K5_at := ⟨by decide, by decide⟩
theorem rm_5_come_5_lookAtPath : Rm K5_come K5_lookAtPath := ⟨by decide, by decide⟩
theorem cl_5_270 : CalV RX5 270 K5_lookAtPath 2 := ⟨⟨mB 875 (by decide +kernel) rfl, mB 5 (by decide +kernel) rfl, mB 878 (by decide +kernel) rfl, by decide +kernel, by decide +kernel, by decide +kernel⟩, mB 877 (by decide +kernel) rfl, mS 34 (q := (yX5_lookAtPath, 65)) (by decide +kernel) rfl⟩
theorem rm_5_come_5_partComes : Rm K5_come K5_partComes := ⟨by decide, by decide⟩
theorem cl_5_273 : CalV RX5 273 K5_partComes 6 := ⟨⟨mB 879 (by decide +kernel) rfl, mB 5 (by decide +kernel) rfl, mB 882 (by decide +kernel) rfl, by decide +kernel, by decide +kernel, by decide +kernel⟩, mB 881 (by decide +kernel) rfl, mS 35 (q := (yX5_partComes, 65)) (by decide +kernel) rfl⟩
theorem rm_5_partComes_5_toldComes : Rm K5_partComes K5_toldComes := ⟨by decide, by decide⟩
theorem cl_5_277 : CalV RX5 277 K5_toldComes 3 := ⟨⟨mB 883 (by decide +kernel) rfl, mB 5 (by decide +kernel) rfl, mB 886 (by decide +kernel) rfl, by decide +kernel, by decide +kernel, by decide +kernel⟩, mB 885 (by decide +kernel) rfl, mS 36 (q := (yX5_toldComes, 65)) (by decide +kernel) rfl⟩
theorem rm_5_partComes_5_bytesCome : Rm K5_partComes K5_bytesCome := ⟨by decide, by decide⟩
theorem cl_5_281 : CalV RX5 281 K5_bytesCome 4 := ⟨⟨mB 907 (by decide +kernel) rfl, mB 5 (by decide +kernel) rfl, mB 910 (by decide +kernel) rfl, by decide +kernel, by decide +kernel, by decide +kernel⟩, mB 909 (by decide +kernel) rfl, mS 42 (q := (yX5_bytesCome, 65)) (by decide +kernel) rfl⟩
theorem rm_5_toldComes_5_at : Rm K5_toldComes K5_at := ⟨by decide, by decide⟩
theorem rm_5_toldComes_5_arrives : Rm K5_toldComes K5_arrives := ⟨by decide, by decide⟩
theorem cl_5_285 : CalV RX5 285 K5_arrives 1 := ⟨⟨mB 887 (by decide +kernel) rfl, mB 5 (by decide +kernel) rfl, mB 890 (by decide +kernel) rfl, by decide +kernel, by decide +kernel, by decide +kernel⟩, mB 889 (by decide +kernel) rfl, mS 37 (q := (yX5_arrives, 65)) (by decide +kernel) rfl⟩
theorem rm_5_toldComes_5_measure : Rm K5_toldComes K5_measure := ⟨by decide, by decide⟩
theorem cl_5_288 : CalV RX5 288 K5_measure 2 := ⟨⟨mB 891 (by decide +kernel) rfl, mB 5 (by decide +kernel) rfl, mB 894 (by decide +kernel) rfl, by decide +kernel, by decide +kernel, by decide +kernel⟩, mB 893 (by decide +kernel) rfl, mS 38 (q := (yX5_measure, 65)) (by decide +kernel) rfl⟩
theorem rm_5_toldComes_5_lookForLost : Rm K5_toldComes K5_lookForLost := ⟨by decide, by decide⟩
theorem cl_5_291 : CalV RX5 291 K5_lookForLost 1 := ⟨⟨mB 895 (by decide +kernel) rfl, mB 5 (by decide +kernel) rfl, mB 898 (by decide +kernel) rfl, by decide +kernel, by decide +kernel, by decide +kernel⟩, mB 897 (by decide +kernel) rfl, mS 39 (q := (yX5_lookForLost, 65)) (by decide +kernel) rfl⟩
theorem rm_5_lookForLost_5_limit : Rm K5_lookForLost K5_limit := ⟨by decide, by decide⟩
theorem cl_5_294 : CalV RX5 294 K5_limit 1 := ⟨⟨mB 899 (by decide +kernel) rfl, mB 5 (by decide +kernel) rfl, mB 902 (by decide +kernel) rfl, by decide +kernel, by decide +kernel, by decide +kernel⟩, mB 901 (by decide +kernel) rfl, mS 40 (q := (yX5_limit, 65)) (by decide +kernel) rfl⟩
theorem rm_5_lookForLost_5_at : Rm K5_lookForLost K5_at := ⟨by decide, by decide⟩
theorem rm_5_lookForLost_5_loses : Rm K5_lookForLost K5_loses := ⟨by decide, by decide⟩
theorem cl_5_297 : CalV RX5 297 K5_loses 5 := ⟨⟨mB 903 (by decide +kernel) rfl, mB 5 (by decide +kernel) rfl, mB 906 (by decide +kernel) rfl, by decide +kernel, by decide +kernel, by decide +kernel⟩, mB 905 (by decide +kernel) rfl, mS 41 (q := (yX5_loses, 65)) (by decide +kernel) rfl⟩
theorem rm_5_drop_5_in : Rm K5_drop K5_in := ⟨by decide, by decide⟩
theorem rm_5_drop_5_takeOut : Rm K5_drop K5_takeOut := ⟨by decide, by decide⟩
theorem rm_5_twice_5_in : Rm K5_twice K5_in := ⟨by decide, by decide⟩
theorem rm_5_tick_5_in : Rm K5_tick K5_in := ⟨by decide, by decide⟩
theorem rm_5_tick_5_lookForLost : Rm K5_tick K5_lookForLost := ⟨by decide, by decide⟩
theorem rm_5_tick_5_waitOf : Rm K5_tick K5_waitOf := ⟨by decide, by decide⟩
theorem cl_5_301 : CalV RX5 301 K5_waitOf 1 := ⟨⟨mB 923 (by decide +kernel) rfl, mB 5 (by decide +kernel) rfl, mB 926 (by decide +kernel) rfl, by decide +kernel, by decide +kernel, by decide +kernel⟩, mB 925 (by decide +kernel) rfl, mS 43 (q := (yX5_waitOf, 65)) (by decide +kernel) rfl⟩
theorem rm_5_stream_5_isStream : Rm K5_stream K5_isStream := ⟨by decide, by decide⟩
theorem rm_5_stream_5_asInt : Rm K5_stream K5_asInt := ⟨by decide, by decide⟩
theorem cl_5_304 : CalS RX5 304 K5_asInt 1 := ⟨⟨mB 931 (by decide +kernel) rfl, mB 5 (by decide +kernel) rfl, mB 933 (by decide +kernel) rfl, by decide +kernel, by decide +kernel, by decide +kernel⟩, mB 932 (by decide +kernel) rfl⟩
theorem rm_5_stream_5_many : Rm K5_stream K5_many := ⟨by decide, by decide⟩
theorem cl_5_308 : CalV RX5 308 K5_many 2 := ⟨⟨mB 934 (by decide +kernel) rfl, mB 5 (by decide +kernel) rfl, mB 937 (by decide +kernel) rfl, by decide +kernel, by decide +kernel, by decide +kernel⟩, mB 936 (by decide +kernel) rfl, mS 44 (q := (yX5_many, 65)) (by decide +kernel) rfl⟩
theorem rm_5_stream_5_cameMany : Rm K5_stream K5_cameMany := ⟨by decide, by decide⟩
theorem cl_5_311 : CalV RX5 311 K5_cameMany 1 := ⟨⟨mB 938 (by decide +kernel) rfl, mB 5 (by decide +kernel) rfl, mB 941 (by decide +kernel) rfl, by decide +kernel, by decide +kernel, by decide +kernel⟩, mB 940 (by decide +kernel) rfl, mS 45 (q := (yX5_cameMany, 65)) (by decide +kernel) rfl⟩
theorem rm_5_state_5_isStream : Rm K5_state K5_isStream := ⟨by decide, by decide⟩
theorem rm_5_state_5_in : Rm K5_state K5_in := ⟨by decide, by decide⟩
theorem rm_5_side_5_isSide : Rm K5_side K5_isSide := ⟨by decide, by decide⟩
theorem rm_5_side_5_asInt : Rm K5_side K5_asInt := ⟨by decide, by decide⟩
theorem rm_5_side_5_counted : Rm K5_side K5_counted := ⟨by decide, by decide⟩
theorem rm_5_isPacket_5_isSide : Rm K5_isPacket K5_isSide := ⟨by decide, by decide⟩
theorem rm_5_isPacket_5_in : Rm K5_isPacket K5_in := ⟨by decide, by decide⟩
theorem rm_5_packet_5_isPacket : Rm K5_packet K5_isPacket := ⟨by decide, by decide⟩
theorem cl_5_316 : CalV RX5 316 K5_isPacket 2 := ⟨⟨mB 955 (by decide +kernel) rfl, mB 5 (by decide +kernel) rfl, mB 958 (by decide +kernel) rfl, by decide +kernel, by decide +kernel, by decide +kernel⟩, mB 957 (by decide +kernel) rfl, mS 46 (q := (yX5_isPacket, 65)) (by decide +kernel) rfl⟩
theorem rm_5_packet_5_at : Rm K5_packet K5_at := ⟨by decide, by decide⟩
theorem rm_5_packet_5_asInt : Rm K5_packet K5_asInt := ⟨by decide, by decide⟩
theorem rm_5_part_5_isPacket : Rm K5_part K5_isPacket := ⟨by decide, by decide⟩
theorem rm_5_part_5_at : Rm K5_part K5_at := ⟨by decide, by decide⟩
theorem rm_5_part_5_in : Rm K5_part K5_in := ⟨by decide, by decide⟩
theorem rm_5_net_5_in : Rm K5_net K5_in := ⟨by decide, by decide⟩
theorem rm_5_told_5_asInt : Rm K5_told K5_asInt := ⟨by decide, by decide⟩
theorem rm_0_init_0_startOver : Rm K0_init K0_startOver := ⟨by decide, by decide⟩
theorem cl_0_9 : CalV RX0 9 K0_startOver 2 := ⟨⟨mB 105 (by decide +kernel) rfl, mB 4 (by decide +kernel) rfl, mB 108 (by decide +kernel) rfl, by decide +kernel, by decide +kernel, by decide +kernel⟩, mB 106 (by decide +kernel) rfl, mB 107 (by decide +kernel) rfl⟩
theorem mw_0_42 : MathW RX0 42 Lib.Math.abs.name Lib.Math.abs.code 1 := ⟨mB 496 (by decide +kernel) rfl, mB 497 (by decide +kernel) rfl, mB 6 (by decide +kernel) rfl, mB 498 (by decide +kernel) rfl⟩
theorem mw_0_48 : MathW RX0 48 Lib.Math.max.name Lib.Math.max.code 2 := ⟨mB 507 (by decide +kernel) rfl, mB 421 (by decide +kernel) rfl, mB 6 (by decide +kernel) rfl, mB 422 (by decide +kernel) rfl⟩
theorem rm_0_probeIfLate_0_waitTime : Rm K0_probeIfLate K0_waitTime := ⟨by decide, by decide⟩
theorem cl_0_55 : CalV RX0 55 K0_waitTime 0 := ⟨⟨mB 540 (by decide +kernel) rfl, mB 4 (by decide +kernel) rfl, mB 543 (by decide +kernel) rfl, by decide +kernel, by decide +kernel, by decide +kernel⟩, mB 541 (by decide +kernel) rfl, mB 542 (by decide +kernel) rfl⟩
theorem mw_0_62 : MathW RX0 62 Lib.Math.min.name Lib.Math.min.code 2 := ⟨mB 544 (by decide +kernel) rfl, mB 279 (by decide +kernel) rfl, mB 6 (by decide +kernel) rfl, mB 280 (by decide +kernel) rfl⟩
theorem rm_1_add_1_weightOf : Rm K1_add K1_weightOf := ⟨by decide, by decide⟩
theorem cl_1_47 : CalS RX1 47 K1_weightOf 2 := ⟨⟨mB 369 (by decide +kernel) rfl, mB 7 (by decide +kernel) rfl, mB 371 (by decide +kernel) rfl, by decide +kernel, by decide +kernel, by decide +kernel⟩, mB 370 (by decide +kernel) rfl⟩
theorem rm_1_add_1_roomLeft : Rm K1_add K1_roomLeft := ⟨by decide, by decide⟩
theorem cl_1_54 : CalV RX1 54 K1_roomLeft 0 := ⟨⟨mB 372 (by decide +kernel) rfl, mB 7 (by decide +kernel) rfl, mB 375 (by decide +kernel) rfl, by decide +kernel, by decide +kernel, by decide +kernel⟩, mB 373 (by decide +kernel) rfl, mB 374 (by decide +kernel) rfl⟩
theorem rm_2_init_0_init : Rm K2_init K0_init := ⟨by decide, by decide⟩
theorem cl_2_32 : CalI RX2 32 K0_init 1 := ⟨⟨mB 101 (by decide +kernel) rfl, mB 4 (by decide +kernel) rfl, mB 103 (by decide +kernel) rfl, by decide +kernel, by decide +kernel, by decide +kernel⟩, rfl, rfl, mB 102 (by decide +kernel) rfl⟩
theorem mw_3_41 : MathW RX3 41 Lib.Math.min.name Lib.Math.min.code 2 := ⟨mB 437 (by decide +kernel) rfl, mB 279 (by decide +kernel) rfl, mB 6 (by decide +kernel) rfl, mB 280 (by decide +kernel) rfl⟩
theorem rm_3_firstAgain_3_senderKnows : Rm K3_firstAgain K3_senderKnows := ⟨by decide, by decide⟩
theorem cl_3_47 : CalV RX3 47 K3_senderKnows 1 := ⟨⟨mB 404 (by decide +kernel) rfl, mB 2 (by decide +kernel) rfl, mB 407 (by decide +kernel) rfl, by decide +kernel, by decide +kernel, by decide +kernel⟩, mB 405 (by decide +kernel) rfl, mB 406 (by decide +kernel) rfl⟩
theorem rm_3_countAgainFrom_3_senderKnows : Rm K3_countAgainFrom K3_senderKnows := ⟨by decide, by decide⟩
theorem rm_3_markSent_3_stop : Rm K3_markSent K3_stop := ⟨by decide, by decide⟩
theorem cl_3_51 : CalV RX3 51 K3_stop 2 := ⟨⟨mB 433 (by decide +kernel) rfl, mB 2 (by decide +kernel) rfl, mB 436 (by decide +kernel) rfl, by decide +kernel, by decide +kernel, by decide +kernel⟩, mB 434 (by decide +kernel) rfl, mB 435 (by decide +kernel) rfl⟩
theorem rm_3_markSent_3_senderKnows : Rm K3_markSent K3_senderKnows := ⟨by decide, by decide⟩
theorem rm_3_markSent_3_setSenderKnows : Rm K3_markSent K3_setSenderKnows := ⟨by decide, by decide⟩
theorem cl_3_57 : CalV RX3 57 K3_setSenderKnows 2 := ⟨⟨mB 438 (by decide +kernel) rfl, mB 2 (by decide +kernel) rfl, mB 441 (by decide +kernel) rfl, by decide +kernel, by decide +kernel, by decide +kernel⟩, mB 439 (by decide +kernel) rfl, mB 440 (by decide +kernel) rfl⟩
theorem mw_3_61 : MathW RX3 61 Lib.Math.max.name Lib.Math.max.code 2 := ⟨mB 442 (by decide +kernel) rfl, mB 421 (by decide +kernel) rfl, mB 6 (by decide +kernel) rfl, mB 422 (by decide +kernel) rfl⟩
theorem rm_3_markArrived_3_stop : Rm K3_markArrived K3_stop := ⟨by decide, by decide⟩
theorem rm_3_markArrived_3_senderKnows : Rm K3_markArrived K3_senderKnows := ⟨by decide, by decide⟩
theorem rm_3_markArrived_3_setSenderKnows : Rm K3_markArrived K3_setSenderKnows := ⟨by decide, by decide⟩
theorem rm_3_markAgain_3_stop : Rm K3_markAgain K3_stop := ⟨by decide, by decide⟩
theorem rm_3_markAgain_3_senderKnows : Rm K3_markAgain K3_senderKnows := ⟨by decide, by decide⟩
theorem rm_3_markAgain_3_setSenderKnows : Rm K3_markAgain K3_setSenderKnows := ⟨by decide, by decide⟩
theorem rm_3_markCame_3_stop : Rm K3_markCame K3_stop := ⟨by decide, by decide⟩
theorem oi_m : Cond.instanceMethod objectInit ∈ BIG := mB 14 (by decide +kernel) rfl
theorem oi_c : Cond.code objectInit ⟨#[0xb1]⟩ 1 none ∈ BIG := mB 15 (by decide +kernel) rfl
theorem oi_0 : Cond.methodLink RX0 3 objectInit ∈ BIG := mB 104 (by decide +kernel) rfl
theorem oi_1 : Cond.methodLink RX1 3 objectInit ∈ BIG := mB 301 (by decide +kernel) rfl
theorem oi_2 : Cond.methodLink RX2 3 objectInit ∈ BIG := mB 97 (by decide +kernel) rfl
theorem oi_3 : Cond.methodLink RX3 3 objectInit ∈ BIG := mB 24 (by decide +kernel) rfl
theorem oi_4 : Cond.methodLink RX4 1 objectInit ∈ BIG := mB 13 (by decide +kernel) rfl
theorem oi_5 : Cond.methodLink RX5 1 objectInit ∈ BIG := mB 585 (by decide +kernel) rfl
