theorem kX3_dropOldest_f19 : Cond.fieldLink RX3 19 "StreamMultiplexer" "history" "[LStreamMultiplexer$State;" ∈ wsX3_dropOldest := List.mem_of_getElem? (i := 1) rfl
theorem uX3_dropOldest_X3 : ∀ w ∈ wsX30, w ∈ wsX3_dropOldest := fun w h => List.mem_cons_of_mem _ (List.mem_append_right _ h)
theorem kX3_dropOldest_f23 : Cond.fieldLink RX3 23 "StreamMultiplexer" "historyCount" "I" ∈ wsX3_dropOldest := List.mem_of_getElem? (i := 2) rfl
theorem kX3_record_f23 : Cond.fieldLink RX3 23 "StreamMultiplexer" "historyCount" "I" ∈ wsX3_record := List.mem_of_getElem? (i := 1) rfl
theorem uX3_record_X3 : ∀ w ∈ wsX30, w ∈ wsX3_record := fun w h => List.mem_cons_of_mem _ (List.mem_append_left _ (List.mem_append_left _ (List.mem_append_left _ (List.mem_append_right _ h))))
theorem kX3_record_f19 : Cond.fieldLink RX3 19 "StreamMultiplexer" "history" "[LStreamMultiplexer$State;" ∈ wsX3_record := List.mem_of_getElem? (i := 2) rfl
theorem kX3_record_f10 : Cond.fieldLink RX3 10 "StreamMultiplexer" "present" "LStreamMultiplexer$State;" ∈ wsX3_record := List.mem_of_getElem? (i := 3) rfl
theorem kX3_isEpoch_f10 : Cond.fieldLink RX3 10 "StreamMultiplexer" "present" "LStreamMultiplexer$State;" ∈ wsX3_isEpoch := List.mem_of_getElem? (i := 1) rfl
theorem uX3_isEpoch_X3 : ∀ w ∈ wsX30, w ∈ wsX3_isEpoch := fun w h => List.mem_cons_of_mem _ (List.mem_append_left _ (List.mem_append_right _ h))
theorem kX3_isEpoch_f113 : Cond.fieldLink RX3 113 "StreamMultiplexer$State" "epochCount" "I" ∈ wsX3_isEpoch := List.mem_of_getElem? (i := 2) rfl
theorem uX3_isEpoch_X2 : ∀ w ∈ wsX20, w ∈ wsX3_isEpoch := fun w h => List.mem_cons_of_mem _ (List.mem_append_right _ h)
theorem kX3_open_f10 : Cond.fieldLink RX3 10 "StreamMultiplexer" "present" "LStreamMultiplexer$State;" ∈ wsX3_open := List.mem_of_getElem? (i := 1) rfl
theorem uX3_open_X3 : ∀ w ∈ wsX30, w ∈ wsX3_open := fun w h => List.mem_cons_of_mem _ (List.mem_append_left _ (List.mem_append_left _ (List.mem_append_left _ (List.mem_append_right _ h))))
theorem kX3_open_f56 : Cond.fieldLink RX3 56 "StreamMultiplexer$State" "opened" "I" ∈ wsX3_open := List.mem_of_getElem? (i := 2) rfl
theorem uX3_open_X2 : ∀ w ∈ wsX20, w ∈ wsX3_open := fun w h => List.mem_cons_of_mem _ (List.mem_append_left _ (List.mem_append_left _ (List.mem_append_right _ h)))
theorem kX3_close_f10 : Cond.fieldLink RX3 10 "StreamMultiplexer" "present" "LStreamMultiplexer$State;" ∈ wsX3_close := List.mem_of_getElem? (i := 1) rfl
theorem uX3_close_X3 : ∀ w ∈ wsX30, w ∈ wsX3_close := fun w h => List.mem_cons_of_mem _ (List.mem_append_left _ (List.mem_append_left _ (List.mem_append_left _ (List.mem_append_right _ h))))
theorem kX3_close_f65 : Cond.fieldLink RX3 65 "StreamMultiplexer$State" "queues" "[LStreamMultiplexer$Frames;" ∈ wsX3_close := List.mem_of_getElem? (i := 2) rfl
theorem uX3_close_X2 : ∀ w ∈ wsX20, w ∈ wsX3_close := fun w h => List.mem_cons_of_mem _ (List.mem_append_left _ (List.mem_append_left _ (List.mem_append_right _ h)))
theorem kX3_close_f69 : Cond.fieldLink RX3 69 "StreamMultiplexer$Frames" "count" "I" ∈ wsX3_close := List.mem_of_getElem? (i := 3) rfl
theorem uX3_close_X0 : ∀ w ∈ wsX00, w ∈ wsX3_close := fun w h => List.mem_cons_of_mem _ (List.mem_append_left _ (List.mem_append_right _ h))
theorem kX3_close_f78 : Cond.fieldLink RX3 78 "StreamMultiplexer$State" "amounts" "[I" ∈ wsX3_close := List.mem_of_getElem? (i := 4) rfl
theorem kX3_setWeight_f10 : Cond.fieldLink RX3 10 "StreamMultiplexer" "present" "LStreamMultiplexer$State;" ∈ wsX3_setWeight := List.mem_of_getElem? (i := 1) rfl
theorem uX3_setWeight_X3 : ∀ w ∈ wsX30, w ∈ wsX3_setWeight := fun w h => List.mem_cons_of_mem _ (List.mem_append_left _ (List.mem_append_left _ (List.mem_append_left _ (List.mem_append_right _ h))))
theorem kX3_setWeight_f82 : Cond.fieldLink RX3 82 "StreamMultiplexer$State" "weights" "[I" ∈ wsX3_setWeight := List.mem_of_getElem? (i := 2) rfl
theorem uX3_setWeight_X2 : ∀ w ∈ wsX20, w ∈ wsX3_setWeight := fun w h => List.mem_cons_of_mem _ (List.mem_append_left _ (List.mem_append_left _ (List.mem_append_right _ h)))
theorem kX3_push_f10 : Cond.fieldLink RX3 10 "StreamMultiplexer" "present" "LStreamMultiplexer$State;" ∈ wsX3_push := List.mem_of_getElem? (i := 1) rfl
theorem uX3_push_X3 : ∀ w ∈ wsX30, w ∈ wsX3_push := fun w h => List.mem_cons_of_mem _ (List.mem_append_left _ (List.mem_append_left _ (List.mem_append_left _ (List.mem_append_right _ h))))
theorem kX3_push_f65 : Cond.fieldLink RX3 65 "StreamMultiplexer$State" "queues" "[LStreamMultiplexer$Frames;" ∈ wsX3_push := List.mem_of_getElem? (i := 2) rfl
theorem uX3_push_X2 : ∀ w ∈ wsX20, w ∈ wsX3_push := fun w h => List.mem_cons_of_mem _ (List.mem_append_left _ (List.mem_append_left _ (List.mem_append_right _ h)))
theorem kX3_edge_f10 : Cond.fieldLink RX3 10 "StreamMultiplexer" "present" "LStreamMultiplexer$State;" ∈ wsX3_edge := List.mem_of_getElem? (i := 1) rfl
theorem uX3_edge_X3 : ∀ w ∈ wsX30, w ∈ wsX3_edge := fun w h => List.mem_cons_of_mem _ (List.mem_append_left _ (List.mem_append_left _ (List.mem_append_left _ (List.mem_append_right _ h))))
theorem kX3_edge_f97 : Cond.fieldLink RX3 97 "StreamMultiplexer$State" "draft" "LStreamMultiplexer$Order;" ∈ wsX3_edge := List.mem_of_getElem? (i := 2) rfl
theorem uX3_edge_X2 : ∀ w ∈ wsX20, w ∈ wsX3_edge := fun w h => List.mem_cons_of_mem _ (List.mem_append_left _ (List.mem_append_left _ (List.mem_append_right _ h)))
theorem kX3_commit_f10 : Cond.fieldLink RX3 10 "StreamMultiplexer" "present" "LStreamMultiplexer$State;" ∈ wsX3_commit := List.mem_of_getElem? (i := 1) rfl
theorem uX3_commit_X3 : ∀ w ∈ wsX30, w ∈ wsX3_commit := fun w h => List.mem_cons_of_mem _ (List.mem_append_left _ (List.mem_append_left _ (List.mem_append_left _ (List.mem_append_right _ h))))
theorem kX3_commit_f113 : Cond.fieldLink RX3 113 "StreamMultiplexer$State" "epochCount" "I" ∈ wsX3_commit := List.mem_of_getElem? (i := 2) rfl
theorem uX3_commit_X2 : ∀ w ∈ wsX20, w ∈ wsX3_commit := fun w h => List.mem_cons_of_mem _ (List.mem_append_left _ (List.mem_append_left _ (List.mem_append_right _ h)))
theorem kX3_revert_f10 : Cond.fieldLink RX3 10 "StreamMultiplexer" "present" "LStreamMultiplexer$State;" ∈ wsX3_revert := List.mem_of_getElem? (i := 1) rfl
theorem uX3_revert_X3 : ∀ w ∈ wsX30, w ∈ wsX3_revert := fun w h => List.mem_cons_of_mem _ (List.mem_append_left _ (List.mem_append_left _ (List.mem_append_left _ (List.mem_append_right _ h))))
theorem kX3_revert_f97 : Cond.fieldLink RX3 97 "StreamMultiplexer$State" "draft" "LStreamMultiplexer$Order;" ∈ wsX3_revert := List.mem_of_getElem? (i := 2) rfl
theorem uX3_revert_X2 : ∀ w ∈ wsX20, w ∈ wsX3_revert := fun w h => List.mem_cons_of_mem _ (List.mem_append_left _ (List.mem_append_left _ (List.mem_append_right _ h)))
theorem kX3_witness_f10 : Cond.fieldLink RX3 10 "StreamMultiplexer" "present" "LStreamMultiplexer$State;" ∈ wsX3_witness := List.mem_of_getElem? (i := 1) rfl
theorem uX3_witness_X3 : ∀ w ∈ wsX30, w ∈ wsX3_witness := fun w h => List.mem_cons_of_mem _ (List.mem_append_left _ (List.mem_append_left _ (List.mem_append_right _ h)))
theorem kX3_witness_f97 : Cond.fieldLink RX3 97 "StreamMultiplexer$State" "draft" "LStreamMultiplexer$Order;" ∈ wsX3_witness := List.mem_of_getElem? (i := 2) rfl
theorem uX3_witness_X2 : ∀ w ∈ wsX20, w ∈ wsX3_witness := fun w h => List.mem_cons_of_mem _ (List.mem_append_left _ (List.mem_append_right _ h))
theorem kX3_send_f10 : Cond.fieldLink RX3 10 "StreamMultiplexer" "present" "LStreamMultiplexer$State;" ∈ wsX3_send := List.mem_of_getElem? (i := 1) rfl
theorem uX3_send_X3 : ∀ w ∈ wsX30, w ∈ wsX3_send := fun w h => List.mem_cons_of_mem _ (List.mem_append_left _ (List.mem_append_left _ (List.mem_append_left _ (List.mem_append_right _ h))))
theorem kX3_send_f65 : Cond.fieldLink RX3 65 "StreamMultiplexer$State" "queues" "[LStreamMultiplexer$Frames;" ∈ wsX3_send := List.mem_of_getElem? (i := 2) rfl
theorem uX3_send_X2 : ∀ w ∈ wsX20, w ∈ wsX3_send := fun w h => List.mem_cons_of_mem _ (List.mem_append_left _ (List.mem_append_left _ (List.mem_append_right _ h)))
theorem kX3_undo_f23 : Cond.fieldLink RX3 23 "StreamMultiplexer" "historyCount" "I" ∈ wsX3_undo := List.mem_of_getElem? (i := 1) rfl
theorem uX3_undo_X3 : ∀ w ∈ wsX30, w ∈ wsX3_undo := fun w h => List.mem_cons_of_mem _ (List.mem_append_right _ h)
theorem kX3_undo_f10 : Cond.fieldLink RX3 10 "StreamMultiplexer" "present" "LStreamMultiplexer$State;" ∈ wsX3_undo := List.mem_of_getElem? (i := 2) rfl
theorem kX3_undo_f19 : Cond.fieldLink RX3 19 "StreamMultiplexer" "history" "[LStreamMultiplexer$State;" ∈ wsX3_undo := List.mem_of_getElem? (i := 3) rfl
theorem kX3_told_f10 : Cond.fieldLink RX3 10 "StreamMultiplexer" "present" "LStreamMultiplexer$State;" ∈ wsX3_told := List.mem_of_getElem? (i := 1) rfl
theorem uX3_told_X3 : ∀ w ∈ wsX30, w ∈ wsX3_told := fun w h => List.mem_cons_of_mem _ (List.mem_append_left _ (List.mem_append_left _ (List.mem_append_left _ (List.mem_append_right _ h))))
theorem kX3_told_f56 : Cond.fieldLink RX3 56 "StreamMultiplexer$State" "opened" "I" ∈ wsX3_told := List.mem_of_getElem? (i := 2) rfl
theorem uX3_told_X2 : ∀ w ∈ wsX20, w ∈ wsX3_told := fun w h => List.mem_cons_of_mem _ (List.mem_append_left _ (List.mem_append_left _ (List.mem_append_right _ h)))
theorem kX3_told_f159 : Cond.fieldLink RX3 159 "StreamMultiplexer$State" "came" "I" ∈ wsX3_told := List.mem_of_getElem? (i := 3) rfl
theorem kX3_told_f162 : Cond.fieldLink RX3 162 "StreamMultiplexer$State" "sent" "I" ∈ wsX3_told := List.mem_of_getElem? (i := 4) rfl
theorem kX3_told_f97 : Cond.fieldLink RX3 97 "StreamMultiplexer$State" "draft" "LStreamMultiplexer$Order;" ∈ wsX3_told := List.mem_of_getElem? (i := 5) rfl
theorem kX3_told_f171 : Cond.fieldLink RX3 171 "StreamMultiplexer$State" "sentFrames" "LStreamMultiplexer$Frames;" ∈ wsX3_told := List.mem_of_getElem? (i := 6) rfl
theorem kX3_told_f69 : Cond.fieldLink RX3 69 "StreamMultiplexer$Frames" "count" "I" ∈ wsX3_told := List.mem_of_getElem? (i := 7) rfl
theorem uX3_told_X0 : ∀ w ∈ wsX00, w ∈ wsX3_told := fun w h => List.mem_cons_of_mem _ (List.mem_append_left _ (List.mem_append_right _ h))
theorem kX3_told_f23 : Cond.fieldLink RX3 23 "StreamMultiplexer" "historyCount" "I" ∈ wsX3_told := List.mem_of_getElem? (i := 8) rfl
theorem kX3_stream_f10 : Cond.fieldLink RX3 10 "StreamMultiplexer" "present" "LStreamMultiplexer$State;" ∈ wsX3_stream := List.mem_of_getElem? (i := 1) rfl
theorem uX3_stream_X3 : ∀ w ∈ wsX30, w ∈ wsX3_stream := fun w h => List.mem_cons_of_mem _ (List.mem_append_left _ (List.mem_append_left _ (List.mem_append_left _ (List.mem_append_right _ h))))
theorem kX3_stream_f65 : Cond.fieldLink RX3 65 "StreamMultiplexer$State" "queues" "[LStreamMultiplexer$Frames;" ∈ wsX3_stream := List.mem_of_getElem? (i := 2) rfl
theorem uX3_stream_X2 : ∀ w ∈ wsX20, w ∈ wsX3_stream := fun w h => List.mem_cons_of_mem _ (List.mem_append_left _ (List.mem_append_left _ (List.mem_append_right _ h)))
theorem kX3_stream_f82 : Cond.fieldLink RX3 82 "StreamMultiplexer$State" "weights" "[I" ∈ wsX3_stream := List.mem_of_getElem? (i := 4) rfl
theorem kX3_stream_f78 : Cond.fieldLink RX3 78 "StreamMultiplexer$State" "amounts" "[I" ∈ wsX3_stream := List.mem_of_getElem? (i := 5) rfl
theorem kX3_stream_f69 : Cond.fieldLink RX3 69 "StreamMultiplexer$Frames" "count" "I" ∈ wsX3_stream := List.mem_of_getElem? (i := 3) rfl
theorem uX3_stream_X0 : ∀ w ∈ wsX00, w ∈ wsX3_stream := fun w h => List.mem_cons_of_mem _ (List.mem_append_left _ (List.mem_append_right _ h))
theorem kX3_frame_f10 : Cond.fieldLink RX3 10 "StreamMultiplexer" "present" "LStreamMultiplexer$State;" ∈ wsX3_frame := List.mem_of_getElem? (i := 1) rfl
theorem uX3_frame_X3 : ∀ w ∈ wsX30, w ∈ wsX3_frame := fun w h => List.mem_cons_of_mem _ (List.mem_append_left _ (List.mem_append_left _ (List.mem_append_left _ (List.mem_append_right _ h))))
theorem kX3_frame_f65 : Cond.fieldLink RX3 65 "StreamMultiplexer$State" "queues" "[LStreamMultiplexer$Frames;" ∈ wsX3_frame := List.mem_of_getElem? (i := 2) rfl
theorem uX3_frame_X2 : ∀ w ∈ wsX20, w ∈ wsX3_frame := fun w h => List.mem_cons_of_mem _ (List.mem_append_left _ (List.mem_append_left _ (List.mem_append_right _ h)))
theorem kX3_frame_f69 : Cond.fieldLink RX3 69 "StreamMultiplexer$Frames" "count" "I" ∈ wsX3_frame := List.mem_of_getElem? (i := 3) rfl
theorem uX3_frame_X0 : ∀ w ∈ wsX00, w ∈ wsX3_frame := fun w h => List.mem_cons_of_mem _ (List.mem_append_left _ (List.mem_append_right _ h))
theorem kX3_log_f10 : Cond.fieldLink RX3 10 "StreamMultiplexer" "present" "LStreamMultiplexer$State;" ∈ wsX3_log := List.mem_of_getElem? (i := 1) rfl
theorem uX3_log_X3 : ∀ w ∈ wsX30, w ∈ wsX3_log := fun w h => List.mem_cons_of_mem _ (List.mem_append_left _ (List.mem_append_left _ (List.mem_append_right _ h)))
theorem kX3_log_f171 : Cond.fieldLink RX3 171 "StreamMultiplexer$State" "sentFrames" "LStreamMultiplexer$Frames;" ∈ wsX3_log := List.mem_of_getElem? (i := 2) rfl
theorem uX3_log_X2 : ∀ w ∈ wsX20, w ∈ wsX3_log := fun w h => List.mem_cons_of_mem _ (List.mem_append_left _ (List.mem_append_right _ h))
theorem kX3_log_f69 : Cond.fieldLink RX3 69 "StreamMultiplexer$Frames" "count" "I" ∈ wsX3_log := List.mem_of_getElem? (i := 3) rfl
theorem uX3_log_X0 : ∀ w ∈ wsX00, w ∈ wsX3_log := fun w h => List.mem_cons_of_mem _ (List.mem_append_right _ h)
theorem kX3_relation_f10 : Cond.fieldLink RX3 10 "StreamMultiplexer" "present" "LStreamMultiplexer$State;" ∈ wsX3_relation := List.mem_of_getElem? (i := 1) rfl
theorem uX3_relation_X3 : ∀ w ∈ wsX30, w ∈ wsX3_relation := fun w h => List.mem_cons_of_mem _ (List.mem_append_left _ (List.mem_append_left _ (List.mem_append_right _ h)))
theorem kX3_order_f10 : Cond.fieldLink RX3 10 "StreamMultiplexer" "present" "LStreamMultiplexer$State;" ∈ wsX3_order := List.mem_of_getElem? (i := 1) rfl
theorem uX3_order_X3 : ∀ w ∈ wsX30, w ∈ wsX3_order := fun w h => List.mem_cons_of_mem _ (List.mem_append_left _ (List.mem_append_left _ (List.mem_append_right _ h)))
theorem kX3_order_f56 : Cond.fieldLink RX3 56 "StreamMultiplexer$State" "opened" "I" ∈ wsX3_order := List.mem_of_getElem? (i := 2) rfl
theorem uX3_order_X2 : ∀ w ∈ wsX20, w ∈ wsX3_order := fun w h => List.mem_cons_of_mem _ (List.mem_append_left _ (List.mem_append_right _ h))
theorem kX3_lists_f10 : Cond.fieldLink RX3 10 "StreamMultiplexer" "present" "LStreamMultiplexer$State;" ∈ wsX3_lists := List.mem_of_getElem? (i := 2) rfl
theorem uX3_lists_X3 : ∀ w ∈ wsX30, w ∈ wsX3_lists := fun w h => List.mem_cons_of_mem _ (List.mem_append_left _ (List.mem_append_left _ (List.mem_append_right _ h)))
theorem kX3_lists_f56 : Cond.fieldLink RX3 56 "StreamMultiplexer$State" "opened" "I" ∈ wsX3_lists := List.mem_of_getElem? (i := 3) rfl
theorem uX3_lists_X2 : ∀ w ∈ wsX20, w ∈ wsX3_lists := fun w h => List.mem_cons_of_mem _ (List.mem_append_left _ (List.mem_append_right _ h))
theorem kX3_lists_f34 : Cond.fieldLink RX3 34 "StreamMultiplexer" "listsOfSet" "[J" ∈ wsX3_lists := List.mem_of_getElem? (i := 4) rfl
theorem kX3_keep_f27 : Cond.fieldLink RX3 27 "StreamMultiplexer" "images" "[LStreamMultiplexer$State;" ∈ wsX3_keep := List.mem_of_getElem? (i := 1) rfl
theorem uX3_keep_X3 : ∀ w ∈ wsX30, w ∈ wsX3_keep := fun w h => List.mem_cons_of_mem _ (List.mem_append_left _ (List.mem_append_left _ (List.mem_append_left _ (List.mem_append_right _ h))))
theorem kX3_keep_f10 : Cond.fieldLink RX3 10 "StreamMultiplexer" "present" "LStreamMultiplexer$State;" ∈ wsX3_keep := List.mem_of_getElem? (i := 2) rfl
theorem kX3_keep_f30 : Cond.fieldLink RX3 30 "StreamMultiplexer" "kept" "[Z" ∈ wsX3_keep := List.mem_of_getElem? (i := 3) rfl
theorem kX3_back_f30 : Cond.fieldLink RX3 30 "StreamMultiplexer" "kept" "[Z" ∈ wsX3_back := List.mem_of_getElem? (i := 1) rfl
theorem uX3_back_X3 : ∀ w ∈ wsX30, w ∈ wsX3_back := fun w h => List.mem_cons_of_mem _ (List.mem_append_left _ (List.mem_append_left _ (List.mem_append_left _ (List.mem_append_right _ h))))
theorem kX3_back_f10 : Cond.fieldLink RX3 10 "StreamMultiplexer" "present" "LStreamMultiplexer$State;" ∈ wsX3_back := List.mem_of_getElem? (i := 2) rfl
theorem kX3_back_f27 : Cond.fieldLink RX3 27 "StreamMultiplexer" "images" "[LStreamMultiplexer$State;" ∈ wsX3_back := List.mem_of_getElem? (i := 3) rfl
theorem kX3_sendSome_f10 : Cond.fieldLink RX3 10 "StreamMultiplexer" "present" "LStreamMultiplexer$State;" ∈ wsX3_sendSome := List.mem_of_getElem? (i := 1) rfl
theorem uX3_sendSome_X3 : ∀ w ∈ wsX30, w ∈ wsX3_sendSome := fun w h => List.mem_cons_of_mem _ (List.mem_append_left _ (List.mem_append_left _ (List.mem_append_left _ (List.mem_append_right _ h))))
theorem kX3_sendSome_f65 : Cond.fieldLink RX3 65 "StreamMultiplexer$State" "queues" "[LStreamMultiplexer$Frames;" ∈ wsX3_sendSome := List.mem_of_getElem? (i := 2) rfl
theorem uX3_sendSome_X2 : ∀ w ∈ wsX20, w ∈ wsX3_sendSome := fun w h => List.mem_cons_of_mem _ (List.mem_append_left _ (List.mem_append_left _ (List.mem_append_right _ h)))
theorem kX3_sentBefore_f16 : Cond.fieldLink RX3 16 "StreamMultiplexer" "forecast" "LStreamMultiplexer$State;" ∈ wsX3_sentBefore := List.mem_of_getElem? (i := 1) rfl
theorem uX3_sentBefore_X3 : ∀ w ∈ wsX30, w ∈ wsX3_sentBefore := fun w h => List.mem_cons_of_mem _ (List.mem_append_left _ (List.mem_append_left _ (List.mem_append_left _ (List.mem_append_right _ h))))
theorem kX3_sentBefore_f10 : Cond.fieldLink RX3 10 "StreamMultiplexer" "present" "LStreamMultiplexer$State;" ∈ wsX3_sentBefore := List.mem_of_getElem? (i := 2) rfl
def fX3_dropOldest (I : hm_I) (x : Nat) : hm_I :=
  hm_put I x 3 (nI 7)
set_option maxHeartbeats 4000000 in
set_option maxRecDepth 100000 in
theorem ctX3_dropOldest {l : Launch} {D : va_G} {T : Nat → ClassId} {L : List Nat} {A : Nat → Prop} {Sh : hm_S} {I : hm_I} {J : hm_J} {x p f h m k j : Nat} {hs im : Nat → Nat} (hX : IsX L Sh x p f h m k j hs im) (hA : ApX x p f h m k j hs im) :
    Ct l yX3_dropOldest wsX3_dropOldest { frames := 0, cells := 0, slots := 0, locals := 0 } 0 0 D T A [.ref x] (hm D T L A Sh I J) none (hm D T L A (va_up (va_up (va_up (va_up (va_up (va_up (va_up (va_up Sh h (kR 2 8 (va_up (fun i => some (hs i)) 0 (some (hs 1))))) h (kR 2 8 (va_up (va_up (fun i => some (hs i)) 0 (some (hs 1))) 1 (some (hs 2))))) h (kR 2 8 (va_up (va_up (va_up (fun i => some (hs i)) 0 (some (hs 1))) 1 (some (hs 2))) 2 (some (hs 3))))) h (kR 2 8 (va_up (va_up (va_up (va_up (fun i => some (hs i)) 0 (some (hs 1))) 1 (some (hs 2))) 2 (some (hs 3))) 3 (some (hs 4))))) h (kR 2 8 (va_up (va_up (va_up (va_up (va_up (fun i => some (hs i)) 0 (some (hs 1))) 1 (some (hs 2))) 2 (some (hs 3))) 3 (some (hs 4))) 4 (some (hs 5))))) h (kR 2 8 (va_up (va_up (va_up (va_up (va_up (va_up (fun i => some (hs i)) 0 (some (hs 1))) 1 (some (hs 2))) 2 (some (hs 3))) 3 (some (hs 4))) 4 (some (hs 5))) 5 (some (hs 6))))) h (kR 2 8 (va_up (va_up (va_up (va_up (va_up (va_up (va_up (fun i => some (hs i)) 0 (some (hs 1))) 1 (some (hs 2))) 2 (some (hs 3))) 3 (some (hs 4))) 4 (some (hs 5))) 5 (some (hs 6))) 6 (some (hs 7))))) h (kR 2 8 (va_up (va_up (va_up (va_up (va_up (va_up (va_up (va_up (fun i => some (hs i)) 0 (some (hs 1))) 1 (some (hs 2))) 2 (some (hs 3))) 3 (some (hs 4))) 4 (some (hs 5))) 5 (some (hs 6))) 6 (some (hs 7))) 7 (some (hs 0))))) (fX3_dropOldest I x) J) := by
  refine Ct.ofW (cc := cX3_dropOldest) (maxL := 3) (ret := none) (by decide) rfl (Nat.le_of_ble_eq_true rfl) ?_
  intro p_ e_ s_ m_ args_ below_ meth_ c_ ls R Qq hR hQ C0 hr hlk hname hM hl
  have hx := C0.1.1
  have hb := C0.1.2.1
  have hS : va_S A s_.heap s_.heap [] := va_S.rf
  have hl : lv_has ls 3 [(0, .ref x)] := hl
  have ho0 : h < hs 0 ∨ hs 0 + 83 ≤ h := (hA.2.1 h (Or.inr (Or.inl rfl))).2.2.1 0 (by decide)
  have ho1 : h < hs 1 ∨ hs 1 + 83 ≤ h := (hA.2.1 h (Or.inr (Or.inl rfl))).2.2.1 1 (by decide)
  have ho2 : h < hs 2 ∨ hs 2 + 83 ≤ h := (hA.2.1 h (Or.inr (Or.inl rfl))).2.2.1 2 (by decide)
  have ho3 : h < hs 3 ∨ hs 3 + 83 ≤ h := (hA.2.1 h (Or.inr (Or.inl rfl))).2.2.1 3 (by decide)
  have ho4 : h < hs 4 ∨ hs 4 + 83 ≤ h := (hA.2.1 h (Or.inr (Or.inl rfl))).2.2.1 4 (by decide)
  have ho5 : h < hs 5 ∨ hs 5 + 83 ≤ h := (hA.2.1 h (Or.inr (Or.inl rfl))).2.2.1 5 (by decide)
  have ho6 : h < hs 6 ∨ hs 6 + 83 ≤ h := (hA.2.1 h (Or.inr (Or.inl rfl))).2.2.1 6 (by decide)
  have ho7 : h < hs 7 ∨ hs 7 + 83 ≤ h := (hA.2.1 h (Or.inr (Or.inl rfl))).2.2.1 7 (by decide)
  have hxh : x ≠ h := hA.1.1
  refine lv_aload_n hx hb dX3_dropOldest_0 rfl (lv_at hl 0 rfl) ?_
  refine mr_getr (r := h) (TT := TX3) (N := 7) C0 uX3_dropOldest_X3 hM hX.1.1 hX.1.2 rfl 2 (by decide) rfl kX3_dropOldest_f19 rfl dX3_dropOldest_1 ?_
  refine lv_iconst (v := nI 0) hx hb dX3_dropOldest_4 (by decide) ?_
  refine mr_aald (t := 2) (C := RX2) (r := hs 0) C0 hM hX.2.2.2.1.1 hX.2.2.2.1.2 rfl (by decide) (by decide) rfl dX3_dropOldest_5 ?_
  refine lv_astore_n (lv' := [(1, .ref (hs 0)), (0, .ref x)]) hx hb dX3_dropOldest_6 rfl hl (by decide) rfl (fun ls hl => ?_)
  refine lv_iconst (v := nI 1) hx hb dX3_dropOldest_7 (by decide) ?_
  refine lv_istore_n (lv' := [(2, .int (nI 1)), (1, .ref (hs 0)), (0, .ref x)]) hx hb dX3_dropOldest_8 rfl hl (by decide) rfl (fun ls hl => ?_)
  refine lv_iload_n hx hb dX3_dropOldest_9 rfl (lv_at hl 0 rfl) ?_
  refine lv_bipush (v := nI 8) hx hb dX3_dropOldest_10 (by decide) ?_
  refine mr_geN (x := 1) (y := 8) (tgt := 35) C0 dX3_dropOldest_12 (by decide) (by decide) (by decide) (fun c1 => absurd c1 (by decide)) (fun _ => ?_)
  refine lv_aload_n hx hb dX3_dropOldest_15 rfl (lv_at hl 2 rfl) ?_
  refine mr_getr (r := h) (TT := TX3) (N := 7) C0 uX3_dropOldest_X3 hM hX.1.1 hX.1.2 rfl 2 (by decide) rfl kX3_dropOldest_f19 rfl dX3_dropOldest_16 ?_
  refine lv_iload_n hx hb dX3_dropOldest_19 rfl (lv_at hl 0 rfl) ?_
  refine lv_iconst (v := nI 1) hx hb dX3_dropOldest_20 (by decide) ?_
  refine mr_isubN (z := 0) C0 rfl dX3_dropOldest_21 ?_
  refine lv_aload_n hx hb dX3_dropOldest_22 rfl (lv_at hl 2 rfl) ?_
  refine mr_getr (r := h) (TT := TX3) (N := 7) C0 uX3_dropOldest_X3 hM hX.1.1 hX.1.2 rfl 2 (by decide) rfl kX3_dropOldest_f19 rfl dX3_dropOldest_23 ?_
  refine lv_iload_n hx hb dX3_dropOldest_26 rfl (lv_at hl 0 rfl) ?_
  refine mr_aald (t := 2) (C := RX2) (r := hs 1) C0 hM hX.2.2.2.1.1 hX.2.2.2.1.2 rfl (by decide) (by decide) rfl dX3_dropOldest_27 ?_
  refine mr_aast (r := (RX2, TX2, 10)) C0 hM hS hX.2.2.2.1.1 hX.2.2.2.1.2 rfl (hX.2.2.2.2.1 _ (by decide)).1.1 (hX.2.2.2.2.1 _ (by decide)).1.2 rfl (by decide) (by decide) dX3_dropOldest_28 (fun H locs hM hS => ?_)
  refine lv_iinc (v := nI 2) (lv' := [(2, .int (nI 2)), (1, .ref (hs 0)), (0, .ref x)]) hx hb dX3_dropOldest_29 hl (k := 0) rfl (by decide) (by decide) rfl (fun ls hl => ?_)
  refine lv_goto (tgt := 9) hx hb dX3_dropOldest_32 (by decide) ?_
  refine lv_iload_n hx hb dX3_dropOldest_9 rfl (lv_at hl 0 rfl) ?_
  refine lv_bipush (v := nI 8) hx hb dX3_dropOldest_10 (by decide) ?_
  refine mr_geN (x := 2) (y := 8) (tgt := 35) C0 dX3_dropOldest_12 (by decide) (by decide) (by decide) (fun c2 => absurd c2 (by decide)) (fun _ => ?_)
  refine lv_aload_n hx hb dX3_dropOldest_15 rfl (lv_at hl 2 rfl) ?_
  refine mr_getr (r := h) (TT := TX3) (N := 7) C0 uX3_dropOldest_X3 hM hX.1.1 (((va_up_ne _ _ (by omega)).trans (hX.1.2))) rfl 2 (by decide) rfl kX3_dropOldest_f19 rfl dX3_dropOldest_16 ?_
  refine lv_iload_n hx hb dX3_dropOldest_19 rfl (lv_at hl 0 rfl) ?_
  refine lv_iconst (v := nI 1) hx hb dX3_dropOldest_20 (by decide) ?_
  refine mr_isubN (z := 1) C0 rfl dX3_dropOldest_21 ?_
  refine lv_aload_n hx hb dX3_dropOldest_22 rfl (lv_at hl 2 rfl) ?_
  refine mr_getr (r := h) (TT := TX3) (N := 7) C0 uX3_dropOldest_X3 hM hX.1.1 (((va_up_ne _ _ (by omega)).trans (hX.1.2))) rfl 2 (by decide) rfl kX3_dropOldest_f19 rfl dX3_dropOldest_23 ?_
  refine lv_iload_n hx hb dX3_dropOldest_26 rfl (lv_at hl 0 rfl) ?_
  refine mr_aald (t := 2) (C := RX2) (r := hs 2) C0 hM hX.2.2.2.1.1 (va_up_self _ _ _) rfl (by decide) (by decide) rfl dX3_dropOldest_27 ?_
  refine mr_aast (r := (RX2, TX2, 10)) C0 hM hS hX.2.2.2.1.1 (va_up_self _ _ _) rfl (hX.2.2.2.2.1 _ (by decide)).1.1 (((va_up_ne _ _ (by omega)).trans ((hX.2.2.2.2.1 _ (by decide)).1.2))) rfl (by decide) (by decide) dX3_dropOldest_28 (fun H locs hM hS => ?_)
  refine lv_iinc (v := nI 3) (lv' := [(2, .int (nI 3)), (1, .ref (hs 0)), (0, .ref x)]) hx hb dX3_dropOldest_29 hl (k := 0) rfl (by decide) (by decide) rfl (fun ls hl => ?_)
  refine lv_goto (tgt := 9) hx hb dX3_dropOldest_32 (by decide) ?_
  refine lv_iload_n hx hb dX3_dropOldest_9 rfl (lv_at hl 0 rfl) ?_
  refine lv_bipush (v := nI 8) hx hb dX3_dropOldest_10 (by decide) ?_
  refine mr_geN (x := 3) (y := 8) (tgt := 35) C0 dX3_dropOldest_12 (by decide) (by decide) (by decide) (fun c3 => absurd c3 (by decide)) (fun _ => ?_)
  refine lv_aload_n hx hb dX3_dropOldest_15 rfl (lv_at hl 2 rfl) ?_
  refine mr_getr (r := h) (TT := TX3) (N := 7) C0 uX3_dropOldest_X3 hM hX.1.1 (((va_up_ne _ _ (by omega)).trans (((va_up_ne _ _ (by omega)).trans (hX.1.2))))) rfl 2 (by decide) rfl kX3_dropOldest_f19 rfl dX3_dropOldest_16 ?_
  refine lv_iload_n hx hb dX3_dropOldest_19 rfl (lv_at hl 0 rfl) ?_
  refine lv_iconst (v := nI 1) hx hb dX3_dropOldest_20 (by decide) ?_
  refine mr_isubN (z := 2) C0 rfl dX3_dropOldest_21 ?_
  refine lv_aload_n hx hb dX3_dropOldest_22 rfl (lv_at hl 2 rfl) ?_
  refine mr_getr (r := h) (TT := TX3) (N := 7) C0 uX3_dropOldest_X3 hM hX.1.1 (((va_up_ne _ _ (by omega)).trans (((va_up_ne _ _ (by omega)).trans (hX.1.2))))) rfl 2 (by decide) rfl kX3_dropOldest_f19 rfl dX3_dropOldest_23 ?_
  refine lv_iload_n hx hb dX3_dropOldest_26 rfl (lv_at hl 0 rfl) ?_
  refine mr_aald (t := 2) (C := RX2) (r := hs 3) C0 hM hX.2.2.2.1.1 (va_up_self _ _ _) rfl (by decide) (by decide) rfl dX3_dropOldest_27 ?_
  refine mr_aast (r := (RX2, TX2, 10)) C0 hM hS hX.2.2.2.1.1 (va_up_self _ _ _) rfl (hX.2.2.2.2.1 _ (by decide)).1.1 (((va_up_ne _ _ (by omega)).trans (((va_up_ne _ _ (by omega)).trans ((hX.2.2.2.2.1 _ (by decide)).1.2))))) rfl (by decide) (by decide) dX3_dropOldest_28 (fun H locs hM hS => ?_)
  refine lv_iinc (v := nI 4) (lv' := [(2, .int (nI 4)), (1, .ref (hs 0)), (0, .ref x)]) hx hb dX3_dropOldest_29 hl (k := 0) rfl (by decide) (by decide) rfl (fun ls hl => ?_)
  refine lv_goto (tgt := 9) hx hb dX3_dropOldest_32 (by decide) ?_
  refine lv_iload_n hx hb dX3_dropOldest_9 rfl (lv_at hl 0 rfl) ?_
  refine lv_bipush (v := nI 8) hx hb dX3_dropOldest_10 (by decide) ?_
  refine mr_geN (x := 4) (y := 8) (tgt := 35) C0 dX3_dropOldest_12 (by decide) (by decide) (by decide) (fun c4 => absurd c4 (by decide)) (fun _ => ?_)
  refine lv_aload_n hx hb dX3_dropOldest_15 rfl (lv_at hl 2 rfl) ?_
  refine mr_getr (r := h) (TT := TX3) (N := 7) C0 uX3_dropOldest_X3 hM hX.1.1 (((va_up_ne _ _ (by omega)).trans (((va_up_ne _ _ (by omega)).trans (((va_up_ne _ _ (by omega)).trans (hX.1.2))))))) rfl 2 (by decide) rfl kX3_dropOldest_f19 rfl dX3_dropOldest_16 ?_
  refine lv_iload_n hx hb dX3_dropOldest_19 rfl (lv_at hl 0 rfl) ?_
  refine lv_iconst (v := nI 1) hx hb dX3_dropOldest_20 (by decide) ?_
  refine mr_isubN (z := 3) C0 rfl dX3_dropOldest_21 ?_
  refine lv_aload_n hx hb dX3_dropOldest_22 rfl (lv_at hl 2 rfl) ?_
  refine mr_getr (r := h) (TT := TX3) (N := 7) C0 uX3_dropOldest_X3 hM hX.1.1 (((va_up_ne _ _ (by omega)).trans (((va_up_ne _ _ (by omega)).trans (((va_up_ne _ _ (by omega)).trans (hX.1.2))))))) rfl 2 (by decide) rfl kX3_dropOldest_f19 rfl dX3_dropOldest_23 ?_
  refine lv_iload_n hx hb dX3_dropOldest_26 rfl (lv_at hl 0 rfl) ?_
  refine mr_aald (t := 2) (C := RX2) (r := hs 4) C0 hM hX.2.2.2.1.1 (va_up_self _ _ _) rfl (by decide) (by decide) rfl dX3_dropOldest_27 ?_
  refine mr_aast (r := (RX2, TX2, 10)) C0 hM hS hX.2.2.2.1.1 (va_up_self _ _ _) rfl (hX.2.2.2.2.1 _ (by decide)).1.1 (((va_up_ne _ _ (by omega)).trans (((va_up_ne _ _ (by omega)).trans (((va_up_ne _ _ (by omega)).trans ((hX.2.2.2.2.1 _ (by decide)).1.2))))))) rfl (by decide) (by decide) dX3_dropOldest_28 (fun H locs hM hS => ?_)
  refine lv_iinc (v := nI 5) (lv' := [(2, .int (nI 5)), (1, .ref (hs 0)), (0, .ref x)]) hx hb dX3_dropOldest_29 hl (k := 0) rfl (by decide) (by decide) rfl (fun ls hl => ?_)
  refine lv_goto (tgt := 9) hx hb dX3_dropOldest_32 (by decide) ?_
  refine lv_iload_n hx hb dX3_dropOldest_9 rfl (lv_at hl 0 rfl) ?_
  refine lv_bipush (v := nI 8) hx hb dX3_dropOldest_10 (by decide) ?_
  refine mr_geN (x := 5) (y := 8) (tgt := 35) C0 dX3_dropOldest_12 (by decide) (by decide) (by decide) (fun c5 => absurd c5 (by decide)) (fun _ => ?_)
  refine lv_aload_n hx hb dX3_dropOldest_15 rfl (lv_at hl 2 rfl) ?_
  refine mr_getr (r := h) (TT := TX3) (N := 7) C0 uX3_dropOldest_X3 hM hX.1.1 (((va_up_ne _ _ (by omega)).trans (((va_up_ne _ _ (by omega)).trans (((va_up_ne _ _ (by omega)).trans (((va_up_ne _ _ (by omega)).trans (hX.1.2))))))))) rfl 2 (by decide) rfl kX3_dropOldest_f19 rfl dX3_dropOldest_16 ?_
  refine lv_iload_n hx hb dX3_dropOldest_19 rfl (lv_at hl 0 rfl) ?_
  refine lv_iconst (v := nI 1) hx hb dX3_dropOldest_20 (by decide) ?_
  refine mr_isubN (z := 4) C0 rfl dX3_dropOldest_21 ?_
  refine lv_aload_n hx hb dX3_dropOldest_22 rfl (lv_at hl 2 rfl) ?_
  refine mr_getr (r := h) (TT := TX3) (N := 7) C0 uX3_dropOldest_X3 hM hX.1.1 (((va_up_ne _ _ (by omega)).trans (((va_up_ne _ _ (by omega)).trans (((va_up_ne _ _ (by omega)).trans (((va_up_ne _ _ (by omega)).trans (hX.1.2))))))))) rfl 2 (by decide) rfl kX3_dropOldest_f19 rfl dX3_dropOldest_23 ?_
  refine lv_iload_n hx hb dX3_dropOldest_26 rfl (lv_at hl 0 rfl) ?_
  refine mr_aald (t := 2) (C := RX2) (r := hs 5) C0 hM hX.2.2.2.1.1 (va_up_self _ _ _) rfl (by decide) (by decide) rfl dX3_dropOldest_27 ?_
  refine mr_aast (r := (RX2, TX2, 10)) C0 hM hS hX.2.2.2.1.1 (va_up_self _ _ _) rfl (hX.2.2.2.2.1 _ (by decide)).1.1 (((va_up_ne _ _ (by omega)).trans (((va_up_ne _ _ (by omega)).trans (((va_up_ne _ _ (by omega)).trans (((va_up_ne _ _ (by omega)).trans ((hX.2.2.2.2.1 _ (by decide)).1.2))))))))) rfl (by decide) (by decide) dX3_dropOldest_28 (fun H locs hM hS => ?_)
  refine lv_iinc (v := nI 6) (lv' := [(2, .int (nI 6)), (1, .ref (hs 0)), (0, .ref x)]) hx hb dX3_dropOldest_29 hl (k := 0) rfl (by decide) (by decide) rfl (fun ls hl => ?_)
  refine lv_goto (tgt := 9) hx hb dX3_dropOldest_32 (by decide) ?_
  refine lv_iload_n hx hb dX3_dropOldest_9 rfl (lv_at hl 0 rfl) ?_
  refine lv_bipush (v := nI 8) hx hb dX3_dropOldest_10 (by decide) ?_
  refine mr_geN (x := 6) (y := 8) (tgt := 35) C0 dX3_dropOldest_12 (by decide) (by decide) (by decide) (fun c6 => absurd c6 (by decide)) (fun _ => ?_)
  refine lv_aload_n hx hb dX3_dropOldest_15 rfl (lv_at hl 2 rfl) ?_
  refine mr_getr (r := h) (TT := TX3) (N := 7) C0 uX3_dropOldest_X3 hM hX.1.1 (((va_up_ne _ _ (by omega)).trans (((va_up_ne _ _ (by omega)).trans (((va_up_ne _ _ (by omega)).trans (((va_up_ne _ _ (by omega)).trans (((va_up_ne _ _ (by omega)).trans (hX.1.2))))))))))) rfl 2 (by decide) rfl kX3_dropOldest_f19 rfl dX3_dropOldest_16 ?_
  refine lv_iload_n hx hb dX3_dropOldest_19 rfl (lv_at hl 0 rfl) ?_
  refine lv_iconst (v := nI 1) hx hb dX3_dropOldest_20 (by decide) ?_
  refine mr_isubN (z := 5) C0 rfl dX3_dropOldest_21 ?_
  refine lv_aload_n hx hb dX3_dropOldest_22 rfl (lv_at hl 2 rfl) ?_
  refine mr_getr (r := h) (TT := TX3) (N := 7) C0 uX3_dropOldest_X3 hM hX.1.1 (((va_up_ne _ _ (by omega)).trans (((va_up_ne _ _ (by omega)).trans (((va_up_ne _ _ (by omega)).trans (((va_up_ne _ _ (by omega)).trans (((va_up_ne _ _ (by omega)).trans (hX.1.2))))))))))) rfl 2 (by decide) rfl kX3_dropOldest_f19 rfl dX3_dropOldest_23 ?_
  refine lv_iload_n hx hb dX3_dropOldest_26 rfl (lv_at hl 0 rfl) ?_
  refine mr_aald (t := 2) (C := RX2) (r := hs 6) C0 hM hX.2.2.2.1.1 (va_up_self _ _ _) rfl (by decide) (by decide) rfl dX3_dropOldest_27 ?_
  refine mr_aast (r := (RX2, TX2, 10)) C0 hM hS hX.2.2.2.1.1 (va_up_self _ _ _) rfl (hX.2.2.2.2.1 _ (by decide)).1.1 (((va_up_ne _ _ (by omega)).trans (((va_up_ne _ _ (by omega)).trans (((va_up_ne _ _ (by omega)).trans (((va_up_ne _ _ (by omega)).trans (((va_up_ne _ _ (by omega)).trans ((hX.2.2.2.2.1 _ (by decide)).1.2))))))))))) rfl (by decide) (by decide) dX3_dropOldest_28 (fun H locs hM hS => ?_)
  refine lv_iinc (v := nI 7) (lv' := [(2, .int (nI 7)), (1, .ref (hs 0)), (0, .ref x)]) hx hb dX3_dropOldest_29 hl (k := 0) rfl (by decide) (by decide) rfl (fun ls hl => ?_)
  refine lv_goto (tgt := 9) hx hb dX3_dropOldest_32 (by decide) ?_
  refine lv_iload_n hx hb dX3_dropOldest_9 rfl (lv_at hl 0 rfl) ?_
  refine lv_bipush (v := nI 8) hx hb dX3_dropOldest_10 (by decide) ?_
  refine mr_geN (x := 7) (y := 8) (tgt := 35) C0 dX3_dropOldest_12 (by decide) (by decide) (by decide) (fun c7 => absurd c7 (by decide)) (fun _ => ?_)
  refine lv_aload_n hx hb dX3_dropOldest_15 rfl (lv_at hl 2 rfl) ?_
  refine mr_getr (r := h) (TT := TX3) (N := 7) C0 uX3_dropOldest_X3 hM hX.1.1 (((va_up_ne _ _ (by omega)).trans (((va_up_ne _ _ (by omega)).trans (((va_up_ne _ _ (by omega)).trans (((va_up_ne _ _ (by omega)).trans (((va_up_ne _ _ (by omega)).trans (((va_up_ne _ _ (by omega)).trans (hX.1.2))))))))))))) rfl 2 (by decide) rfl kX3_dropOldest_f19 rfl dX3_dropOldest_16 ?_
  refine lv_iload_n hx hb dX3_dropOldest_19 rfl (lv_at hl 0 rfl) ?_
  refine lv_iconst (v := nI 1) hx hb dX3_dropOldest_20 (by decide) ?_
  refine mr_isubN (z := 6) C0 rfl dX3_dropOldest_21 ?_
  refine lv_aload_n hx hb dX3_dropOldest_22 rfl (lv_at hl 2 rfl) ?_
  refine mr_getr (r := h) (TT := TX3) (N := 7) C0 uX3_dropOldest_X3 hM hX.1.1 (((va_up_ne _ _ (by omega)).trans (((va_up_ne _ _ (by omega)).trans (((va_up_ne _ _ (by omega)).trans (((va_up_ne _ _ (by omega)).trans (((va_up_ne _ _ (by omega)).trans (((va_up_ne _ _ (by omega)).trans (hX.1.2))))))))))))) rfl 2 (by decide) rfl kX3_dropOldest_f19 rfl dX3_dropOldest_23 ?_
  refine lv_iload_n hx hb dX3_dropOldest_26 rfl (lv_at hl 0 rfl) ?_
  refine mr_aald (t := 2) (C := RX2) (r := hs 7) C0 hM hX.2.2.2.1.1 (va_up_self _ _ _) rfl (by decide) (by decide) rfl dX3_dropOldest_27 ?_
  refine mr_aast (r := (RX2, TX2, 10)) C0 hM hS hX.2.2.2.1.1 (va_up_self _ _ _) rfl (hX.2.2.2.2.1 _ (by decide)).1.1 (((va_up_ne _ _ (by omega)).trans (((va_up_ne _ _ (by omega)).trans (((va_up_ne _ _ (by omega)).trans (((va_up_ne _ _ (by omega)).trans (((va_up_ne _ _ (by omega)).trans (((va_up_ne _ _ (by omega)).trans ((hX.2.2.2.2.1 _ (by decide)).1.2))))))))))))) rfl (by decide) (by decide) dX3_dropOldest_28 (fun H locs hM hS => ?_)
  refine lv_iinc (v := nI 8) (lv' := [(2, .int (nI 8)), (1, .ref (hs 0)), (0, .ref x)]) hx hb dX3_dropOldest_29 hl (k := 0) rfl (by decide) (by decide) rfl (fun ls hl => ?_)
  refine lv_goto (tgt := 9) hx hb dX3_dropOldest_32 (by decide) ?_
  refine lv_iload_n hx hb dX3_dropOldest_9 rfl (lv_at hl 0 rfl) ?_
  refine lv_bipush (v := nI 8) hx hb dX3_dropOldest_10 (by decide) ?_
  refine mr_geN (x := 8) (y := 8) (tgt := 35) C0 dX3_dropOldest_12 (by decide) (by decide) (by decide) (fun _ => ?_) (fun c8 => absurd c8 (by decide))
  refine lv_aload_n hx hb dX3_dropOldest_35 rfl (lv_at hl 2 rfl) ?_
  refine mr_getr (r := h) (TT := TX3) (N := 7) C0 uX3_dropOldest_X3 hM hX.1.1 (((va_up_ne _ _ (by omega)).trans (((va_up_ne _ _ (by omega)).trans (((va_up_ne _ _ (by omega)).trans (((va_up_ne _ _ (by omega)).trans (((va_up_ne _ _ (by omega)).trans (((va_up_ne _ _ (by omega)).trans (((va_up_ne _ _ (by omega)).trans (hX.1.2))))))))))))))) rfl 2 (by decide) rfl kX3_dropOldest_f19 rfl dX3_dropOldest_36 ?_
  refine lv_bipush (v := nI 7) hx hb dX3_dropOldest_39 (by decide) ?_
  refine lv_aload_n hx hb dX3_dropOldest_41 rfl (lv_at hl 1 rfl) ?_
  refine mr_aast (r := (RX2, TX2, 10)) C0 hM hS hX.2.2.2.1.1 (va_up_self _ _ _) rfl (hX.2.2.2.2.1 _ (by decide)).1.1 (((va_up_ne _ _ (by omega)).trans (((va_up_ne _ _ (by omega)).trans (((va_up_ne _ _ (by omega)).trans (((va_up_ne _ _ (by omega)).trans (((va_up_ne _ _ (by omega)).trans (((va_up_ne _ _ (by omega)).trans (((va_up_ne _ _ (by omega)).trans ((hX.2.2.2.2.1 _ (by decide)).1.2))))))))))))))) rfl (by decide) (by decide) dX3_dropOldest_42 (fun H locs hM hS => ?_)
  refine lv_aload_n hx hb dX3_dropOldest_43 rfl (lv_at hl 2 rfl) ?_
  refine lv_bipush (v := nI 7) hx hb dX3_dropOldest_44 (by decide) ?_
  refine mr_puti (TT := TX3) (N := 7) C0 uX3_dropOldest_X3 tyX3 tyX3_ok nmX3 hM hS hX.1.1 (((va_up_ne _ _ (by omega)).trans (((va_up_ne _ _ (by omega)).trans (((va_up_ne _ _ (by omega)).trans (((va_up_ne _ _ (by omega)).trans (((va_up_ne _ _ (by omega)).trans (((va_up_ne _ _ (by omega)).trans (((va_up_ne _ _ (by omega)).trans (((va_up_ne _ _ (by omega)).trans (hX.1.2))))))))))))))))) rfl 3 (by decide) rfl kX3_dropOldest_f23 rfl rfl (by decide +kernel) dX3_dropOldest_46 (fun H locs hM hS => ?_)
  have eF : hm_put I x 3 (nI 7) = fX3_dropOldest I x := rfl
  exact mr_vret C0 hr hlk hQ hS rfl (by rw [← eF]; exact hM) (Nat.le_refl _) (Nat.le_refl _) dX3_dropOldest_49
theorem dropOldest_sh {Sh : hm_S} {h : Nat} {hs : Nat → Nat} {F : Nat → Option Nat} {G : hm_S} (hF : ∀ i, F i = some (rotH hs i)) (hG : ∀ b, b ≠ h → G b = Sh b) : va_up G h (kR 2 8 F) = va_up Sh h (kR 2 8 (fun i => some (rotH hs i))) := by
  have e : F = fun i => some (rotH hs i) := funext hF
  subst e
  funext b
  unfold va_up
  by_cases hb : b = h
  · rw [if_pos hb, if_pos hb]
  · rw [if_neg hb, if_neg hb, hG b hb]
theorem ctX3_dropOldest' {l : Launch} {D : va_G} {T : Nat → ClassId} {L : List Nat} {A : Nat → Prop} {Sh : hm_S} {I : hm_I} {J : hm_J} {x p f h m k j : Nat} {hs im : Nat → Nat} (hX : IsX L Sh x p f h m k j hs im) (hA : ApX x p f h m k j hs im) : Ct l yX3_dropOldest wsX3_dropOldest { frames := 0, cells := 0, slots := 0, locals := 0 } 0 0 D T A [.ref x] (hm D T L A Sh I J) none (hm D T L A (va_up Sh h (kR 2 8 (fun i => some (rotH hs i)))) (hm_put I x 3 (nI 7)) J) := by
  refine Ct.weak (ctX3_dropOldest hX hA) (fun _ h => h) rfl (fun H hH => ?_)
  rw [dropOldest_sh (Sh := Sh) (h := h) (hs := hs) (fun i => ?_) (fun b hb => ?_)] at hH
  · exact hH
  · rcases (show i = 0 ∨ i = 1 ∨ i = 2 ∨ i = 3 ∨ i = 4 ∨ i = 5 ∨ i = 6 ∨ i = 7 ∨ 8 ≤ i by omega) with rfl | rfl | rfl | rfl | rfl | rfl | rfl | rfl | h9
    all_goals first | (simp [va_up, rotH]; done) | (have a0 : i ≠ 0 := by omega
                                                    have a1 : i ≠ 1 := by omega
                                                    have a2 : i ≠ 2 := by omega
                                                    have a3 : i ≠ 3 := by omega
                                                    have a4 : i ≠ 4 := by omega
                                                    have a5 : i ≠ 5 := by omega
                                                    have a6 : i ≠ 6 := by omega
                                                    have a7 : i ≠ 7 := by omega
                                                    have a8 : ¬ i < 7 := by omega
                                                    simp [va_up, rotH, a0, a1, a2, a3, a4, a5, a6, a7, a8])
  · simp [va_up, hb]
def fX3_record_b (I : hm_I) (x p : Nat) (hs c : Nat → Nat) (ec lc : Nat) : hm_I :=
  hm_put (fX2_copyFrom (hm_put I x 3 (nI 7)) (rotH hs 7) p c ec lc) x 3 (nI 8)
set_option maxHeartbeats 4000000 in
set_option maxRecDepth 100000 in
theorem ctX3_record_b {l : Launch} {D : va_G} {T : Nat → ClassId} {L : List Nat} {A : Nat → Prop} {Sh : hm_S} {I : hm_I} {J : hm_J} {x p f h m k j : Nat} {hs im : Nat → Nat} (hX : IsX L Sh x p f h m k j hs im) (hA : ApX x p f h m k j hs im) {c : Nat → Nat} {e : Nat → Nat → Nat} {ec lc : Nat} (hW : WfS I p c e ec lc) (hn : I x 3 = nI 8) :
    Ct l yX3_record wsX3_record { frames := 3, cells := 0, slots := 0, locals := 65 } 0 0 D T A [.ref x] (hm D T L A Sh I J) none (hm D T L A (va_up Sh h (kR 2 8 (fun i => some (rotH hs i)))) (fX3_record_b I x p hs c ec lc) J) := by
  refine Ct.ofW (cc := cX3_record) (maxL := 1) (ret := none) (by decide) rfl (Nat.le_of_ble_eq_true rfl) ?_
  intro p_ e_ s_ m_ args_ below_ meth_ c_ ls R Qq hR hQ C0 hr hlk hname hM hl
  have hx := C0.1.1
  have hb := C0.1.2.1
  have hS : va_S A s_.heap s_.heap [] := va_S.rf
  have hl : lv_has ls 1 [(0, .ref x)] := hl
  have hf1 : p + 83 ≤ rotH hs 7 ∨ rotH hs 7 + 83 ≤ p := rotH_cases hA.2.2.2.1 7 (by decide)
  have hox : x < p ∨ p + 83 ≤ x := (hA.2.1 x (Or.inl rfl)).1
  have hoh : x < rotH hs 7 ∨ rotH hs 7 + 83 ≤ x := rotH_cases (hA.2.1 x (Or.inl rfl)).2.2.1 7 (by decide)
  have hec10 := hW.2.2.2.2.1
  refine lv_aload_n hx hb dX3_record_0 rfl (lv_at hl 0 rfl) ?_
  refine mr_geti (v := nI 8) (TT := TX3) (N := 7) C0 uX3_record_X3 hM hX.1.1 hX.1.2 rfl 3 (by decide) rfl hn kX3_record_f23 rfl dX3_record_1 ?_
  refine lv_bipush (v := nI 8) hx hb dX3_record_4 (by decide) ?_
  refine mr_ltN (x := 8) (y := 8) (tgt := 13) C0 dX3_record_6 (by decide) (by decide) (by decide) (fun c1 => absurd c1 (by decide)) (fun _ => ?_)
  refine lv_aload_n hx hb dX3_record_9 rfl (lv_at hl 0 rfl) ?_
  refine mr_callV (As := []) C0 (ctX3_dropOldest' (I := I) (J := J) hX hA) (cwV 0 C0.1.2.2.2.2 gX3_record_X3_dropOldest rfl rfl rfl (by decide +kernel) (by rw [hR]; exact ⟨Nat.le_of_ble_eq_true rfl, Nat.le_of_ble_eq_true rfl⟩)) hM hX.1.1 hX.1.2 rfl rfl hM hS rfl rfl rfl hl.1 (Nat.le_of_ble_eq_true rfl) dX3_record_10 (by rw [hR]; exact ⟨Nat.zero_le _, Nat.zero_le _⟩) (fun H locs hM hS => ?_)
  have hX2 := IsX_h hX hA (rotH_in hs)
  have hl := lv_sub hl [0] rfl
  have hl : lv_has ls 1 [(0, .ref x)] := hl
  refine lv_aload_n hx hb dX3_record_13 rfl (lv_at hl 0 rfl) ?_
  refine mr_getr (r := h) (TT := TX3) (N := 7) C0 uX3_record_X3 hM hX2.1.1 hX2.1.2 rfl 2 (by decide) rfl kX3_record_f19 rfl dX3_record_14 ?_
  refine lv_aload_n hx hb dX3_record_17 rfl (lv_at hl 0 rfl) ?_
  refine mr_geti (v := nI 7) (TT := TX3) (N := 7) C0 uX3_record_X3 hM hX2.1.1 hX2.1.2 rfl 3 (by decide) rfl (hm_put_at _ _ _ _) kX3_record_f23 rfl dX3_record_18 ?_
  refine mr_aald (t := 2) (C := RX2) (r := rotH hs 7) C0 hM hX2.2.2.2.1.1 hX2.2.2.2.1.2 rfl (by decide) (by decide) rfl dX3_record_21 ?_
  refine lv_aload_n hx hb dX3_record_22 rfl (lv_at hl 0 rfl) ?_
  refine mr_getr (r := p) (TT := TX3) (N := 7) C0 uX3_record_X3 hM hX2.1.1 hX2.1.2 rfl 0 (by decide) rfl kX3_record_f10 rfl dX3_record_23 ?_
  refine mr_callV (As := [.ref p]) C0 (ctX2_copyFrom (I := (hm_put I x 3 (nI 7))) (J := J) (q := (rotH hs 7)) (r := p) (hX2.2.2.2.2.1 _ (by decide)) hX2.2.1 (WfS_out hW (fun a h1 h2 => hm_put_ne _ _ _ _ (outq_ne (hA.2.1 x (Or.inl rfl)).1 h1 h2))) (by omega)) (cwV 1 C0.1.2.2.2.2 gX3_record_X2_copyFrom rfl rfl rfl (by decide +kernel) (by rw [hR]; exact ⟨Nat.le_of_ble_eq_true rfl, Nat.le_of_ble_eq_true rfl⟩)) hM (hX2.2.2.2.2.1 _ (by decide)).1.1 (hX2.2.2.2.2.1 _ (by decide)).1.2 rfl rfl hM hS rfl rfl rfl hl.1 (Nat.le_of_ble_eq_true rfl) dX3_record_26 (by rw [hR]; exact ⟨Nat.zero_le _, Nat.zero_le _⟩) (fun H locs hM hS => ?_)
  refine lv_aload_n hx hb dX3_record_29 rfl (lv_at hl 0 rfl) ?_
  refine lv_dup hx hb dX3_record_30 rfl ?_
  refine mr_geti (v := nI 7) (TT := TX3) (N := 7) C0 uX3_record_X3 hM hX2.1.1 hX2.1.2 rfl 3 (by decide) rfl ((congrFun (fX2_copyFrom_ne hec10 (show outq _ _ from by unfold outq; omega)) _).trans (hm_put_at _ _ _ _)) kX3_record_f23 rfl dX3_record_31 ?_
  refine lv_iconst (v := nI 1) hx hb dX3_record_34 (by decide) ?_
  refine mr_iaddN (z := 8) C0 rfl dX3_record_35 ?_
  refine mr_puti (TT := TX3) (N := 7) C0 uX3_record_X3 tyX3 tyX3_ok nmX3 hM hS hX2.1.1 hX2.1.2 rfl 3 (by decide) rfl kX3_record_f23 rfl rfl (by decide +kernel) dX3_record_36 (fun H locs hM hS => ?_)
  have eF : hm_put (fX2_copyFrom (hm_put I x 3 (nI 7)) (rotH hs 7) p c ec lc) x 3 (nI 8) = fX3_record_b I x p hs c ec lc := rfl
  exact mr_vret C0 hr hlk hQ hS rfl (by rw [← eF]; exact hM) (Nat.le_refl _) (Nat.le_refl _) dX3_record_39
def fX3_record_a (I : hm_I) (x p n : Nat) (hs c : Nat → Nat) (ec lc : Nat) : hm_I :=
  hm_put (fX2_copyFrom I (hs n) p c ec lc) x 3 (nI (n + 1))
set_option maxHeartbeats 4000000 in
set_option maxRecDepth 100000 in
theorem ctX3_record_a {l : Launch} {D : va_G} {T : Nat → ClassId} {L : List Nat} {A : Nat → Prop} {Sh : hm_S} {I : hm_I} {J : hm_J} {x p f h m k j : Nat} {hs im : Nat → Nat} (hX : IsX L Sh x p f h m k j hs im) (hA : ApX x p f h m k j hs im) {c : Nat → Nat} {e : Nat → Nat → Nat} {ec lc : Nat} (hW : WfS I p c e ec lc) {n : Nat} (hn : I x 3 = nI n) (hn8 : n < 8) :
    Ct l yX3_record wsX3_record { frames := 3, cells := 0, slots := 0, locals := 65 } 0 0 D T A [.ref x] (hm D T L A Sh I J) none (hm D T L A Sh (fX3_record_a I x p n hs c ec lc) J) := by
  refine Ct.ofW (cc := cX3_record) (maxL := 1) (ret := none) (by decide) rfl (Nat.le_of_ble_eq_true rfl) ?_
  intro p_ e_ s_ m_ args_ below_ meth_ c_ ls R Qq hR hQ C0 hr hlk hname hM hl
  have hx := C0.1.1
  have hb := C0.1.2.1
  have hS : va_S A s_.heap s_.heap [] := va_S.rf
  have hl : lv_has ls 1 [(0, .ref x)] := hl
  have hf1 : p + 83 ≤ hs n ∨ hs n + 83 ≤ p := hA.2.2.2.1 _ (by omega)
  have hox : x < p ∨ p + 83 ≤ x := (hA.2.1 x (Or.inl rfl)).1
  have hoh : x < hs n ∨ hs n + 83 ≤ x := (hA.2.1 x (Or.inl rfl)).2.2.1 n hn8
  have hec10 := hW.2.2.2.2.1
  refine lv_aload_n hx hb dX3_record_0 rfl (lv_at hl 0 rfl) ?_
  refine mr_geti (v := nI n) (TT := TX3) (N := 7) C0 uX3_record_X3 hM hX.1.1 hX.1.2 rfl 3 (by decide) rfl hn kX3_record_f23 rfl dX3_record_1 ?_
  refine lv_bipush (v := nI 8) hx hb dX3_record_4 (by decide) ?_
  refine mr_ltN (x := n) (y := 8) (tgt := 13) C0 dX3_record_6 (by decide) (by omega) (by omega) (fun c1 => ?_) (fun c1 => absurd c1 (by omega))
  refine lv_aload_n hx hb dX3_record_13 rfl (lv_at hl 0 rfl) ?_
  refine mr_getr (r := h) (TT := TX3) (N := 7) C0 uX3_record_X3 hM hX.1.1 hX.1.2 rfl 2 (by decide) rfl kX3_record_f19 rfl dX3_record_14 ?_
  refine lv_aload_n hx hb dX3_record_17 rfl (lv_at hl 0 rfl) ?_
  refine mr_geti (v := nI n) (TT := TX3) (N := 7) C0 uX3_record_X3 hM hX.1.1 hX.1.2 rfl 3 (by decide) rfl hn kX3_record_f23 rfl dX3_record_18 ?_
  refine mr_aald (t := 2) (C := RX2) (r := hs n) C0 hM hX.2.2.2.1.1 hX.2.2.2.1.2 rfl (by decide) (by omega) rfl dX3_record_21 ?_
  refine lv_aload_n hx hb dX3_record_22 rfl (lv_at hl 0 rfl) ?_
  refine mr_getr (r := p) (TT := TX3) (N := 7) C0 uX3_record_X3 hM hX.1.1 hX.1.2 rfl 0 (by decide) rfl kX3_record_f10 rfl dX3_record_23 ?_
  refine mr_callV (As := [.ref p]) C0 (ctX2_copyFrom (I := I) (J := J) (q := (hs n)) (r := p) (hX.2.2.2.2.1 _ (by omega)) hX.2.1 hW (by omega)) (cwV 1 C0.1.2.2.2.2 gX3_record_X2_copyFrom rfl rfl rfl (by decide +kernel) (by rw [hR]; exact ⟨Nat.le_of_ble_eq_true rfl, Nat.le_of_ble_eq_true rfl⟩)) hM (hX.2.2.2.2.1 _ (by omega)).1.1 (hX.2.2.2.2.1 _ (by omega)).1.2 rfl rfl hM hS rfl rfl rfl hl.1 (Nat.le_of_ble_eq_true rfl) dX3_record_26 (by rw [hR]; exact ⟨Nat.zero_le _, Nat.zero_le _⟩) (fun H locs hM hS => ?_)
  refine lv_aload_n hx hb dX3_record_29 rfl (lv_at hl 0 rfl) ?_
  refine lv_dup hx hb dX3_record_30 rfl ?_
  refine mr_geti (v := nI n) (TT := TX3) (N := 7) C0 uX3_record_X3 hM hX.1.1 hX.1.2 rfl 3 (by decide) rfl ((congrFun (fX2_copyFrom_ne hec10 (show outq _ _ from by unfold outq; omega)) _).trans hn) kX3_record_f23 rfl dX3_record_31 ?_
  refine lv_iconst (v := nI 1) hx hb dX3_record_34 (by decide) ?_
  refine mr_iaddN (z := n + 1) C0 rfl dX3_record_35 ?_
  refine mr_puti (TT := TX3) (N := 7) C0 uX3_record_X3 tyX3 tyX3_ok nmX3 hM hS hX.1.1 hX.1.2 rfl 3 (by decide) rfl kX3_record_f23 rfl rfl (by decide +kernel) dX3_record_36 (fun H locs hM hS => ?_)
  have eF : hm_put (fX2_copyFrom I (hs n) p c ec lc) x 3 (nI (n + 1)) = fX3_record_a I x p n hs c ec lc := rfl
  exact mr_vret C0 hr hlk hQ hS rfl (by rw [← eF]; exact hM) (Nat.le_refl _) (Nat.le_refl _) dX3_record_39
theorem ctX3_record {l : Launch} {D : va_G} {T : Nat → ClassId} {L : List Nat} {A : Nat → Prop} {Sh : hm_S} {I : hm_I} {J : hm_J} {x p f h m k j : Nat} {hs im : Nat → Nat} (hX : IsX L Sh x p f h m k j hs im) (hA : ApX x p f h m k j hs im) {c : Nat → Nat} {e : Nat → Nat → Nat} {ec lc : Nat} (hW : WfS I p c e ec lc) {n : Nat} (hn : I x 3 = nI n) (hn8 : n ≤ 8) : Ct l yX3_record wsX3_record { frames := 3, cells := 0, slots := 0, locals := 65 } 0 0 D T A [.ref x] (hm D T L A Sh I J) none (hm D T L A (recSh Sh h hs n) (recI I x p n hs c ec lc) J) := by
  by_cases hlt : n < 8
  · have h1 : recI I x p n hs c ec lc = fX3_record_a I x p n hs c ec lc := by
      unfold recI recI0 recH recK fX3_record_a
      rw [if_pos hlt, if_pos hlt, if_pos hlt]
    have h2 : recSh Sh h hs n = Sh := by unfold recSh; rw [if_pos hlt]
    rw [h1, h2]
    exact ctX3_record_a hX hA hW hn hlt
  · have h8 : n = 8 := by omega
    subst h8
    have h1 : recI I x p 8 hs c ec lc = fX3_record_b I x p hs c ec lc := by
      unfold recI recI0 recH recK fX3_record_b
      rw [if_neg hlt, if_neg hlt, if_neg hlt]
    have h2 : recSh Sh h hs 8 = va_up Sh h (kR 2 8 (fun i => some (rotH hs i))) := by unfold recSh; rw [if_neg hlt]
    rw [h1, h2]
    exact ctX3_record_b hX hA hW hn
theorem WfS_begin {I : hm_I} {q : Nat} {c : Nat → Nat} {e : Nat → Nat → Nat} {ec lc : Nat} (hW : WfS I q c e ec lc) (hec : ec < 10) : WfS (fX2_beginEpoch_t I q ec) q c e (ec + 1) lc := by
  obtain ⟨h1, h2, h3, h4, h5, h6, h7⟩ := hW
  have hk : ∀ a k, (a < q + 48 ∨ q + 78 ≤ a) → (a ≠ q ∨ k ≠ 6) → fX2_beginEpoch_t I q ec a k = I a k := by
    intro a k ha hk
    unfold fX2_beginEpoch_t
    rw [hm_put_get hk, fX1_copyFrom_ne (by omega)]
  refine ⟨fun s hs => ?_, fun s hs k hk' => ?_, ?_, by omega, by omega, ?_, h7⟩
  · rw [hk _ _ (by omega) (by omega)]; exact h1 s hs
  · rw [hk _ _ (by omega) (by omega)]
    obtain ⟨a1, a2⟩ := h2 s hs k hk'
    exact ⟨a1, by omega⟩
  · unfold fX2_beginEpoch_t; exact hm_put_at _ _ _ _
  · rw [hk _ _ (by omega) (by omega)]; exact h6
def fX3_isEpoch (ec : Nat) (e0 : Int32) : Bool :=
  if e0 < 0 then false else if nI ec ≤ e0 then false else true
set_option maxHeartbeats 4000000 in
set_option maxRecDepth 100000 in
theorem ctX3_isEpoch {l : Launch} {D : va_G} {T : Nat → ClassId} {L : List Nat} {A : Nat → Prop} {Sh : hm_S} {I : hm_I} {J : hm_J} {x p f h m k j : Nat} {hs im : Nat → Nat} (hX : IsX L Sh x p f h m k j hs im) (hA : ApX x p f h m k j hs im) {c : Nat → Nat} {e : Nat → Nat → Nat} {ec lc : Nat} (hW : WfS I p c e ec lc) {e0 : Int32} :
    Ct l yX3_isEpoch wsX3_isEpoch { frames := 0, cells := 0, slots := 0, locals := 0 } 0 0 D T A [.ref x, .int e0] (hm D T L A Sh I J) (some (.int (bI (fX3_isEpoch ec e0)))) (hm D T L A Sh I J) := by
  refine Ct.ofW (cc := cX3_isEpoch) (maxL := 2) (ret := (some .boolean)) (by decide) rfl (Nat.le_of_ble_eq_true rfl) ?_
  intro p_ e_ s_ m_ args_ below_ meth_ c_ ls R Qq hR hQ C0 hr hlk hname hM hl
  have hx := C0.1.1
  have hb := C0.1.2.1
  have hS : va_S A s_.heap s_.heap [] := va_S.rf
  have hl : lv_has ls 2 [(0, .ref x), (1, .int e0)] := hl
  refine lv_iload_n hx hb dX3_isEpoch_0 rfl (lv_at hl 1 rfl) ?_
  refine lv_if_lt (tgt := 19) hx hb dX3_isEpoch_1 (by decide) (fun c1 => ?_) (fun c1 => ?_)
  · skip
    refine lv_iconst (v := nI 0) hx hb dX3_isEpoch_19 (by decide) ?_
    refine mr_top (y := bI false) (by decide) ?_
    have eF : false = fX3_isEpoch ec e0 := by unfold fX3_isEpoch; rw [if_pos c1]
    exact mr_zret (b := false) C0 hr hlk hQ hS (by rw [← eF]) hM (Nat.le_refl _) (Nat.le_refl _) dX3_isEpoch_20
  · skip
    refine lv_iload_n hx hb dX3_isEpoch_4 rfl (lv_at hl 1 rfl) ?_
    refine lv_aload_n hx hb dX3_isEpoch_5 rfl (lv_at hl 0 rfl) ?_
    refine mr_getr (r := p) (TT := TX3) (N := 7) C0 uX3_isEpoch_X3 hM hX.1.1 hX.1.2 rfl 0 (by decide) rfl kX3_isEpoch_f10 rfl dX3_isEpoch_6 ?_
    have hw2 := hW.2.2.2.1
    have hw2b := hW.2.2.2.2.1
    refine mr_geti (v := nI ec) (TT := TX2) (N := 10) C0 uX3_isEpoch_X2 hM hX.2.1.1.1 hX.2.1.1.2 rfl 6 (by decide) rfl hW.2.2.1 kX3_isEpoch_f113 rfl dX3_isEpoch_9 ?_
    refine lv_icmp_ge (tgt := 19) hx hb dX3_isEpoch_12 (by decide) (fun c3 => ?_) (fun c3 => ?_)
    · skip
      refine lv_iconst (v := nI 0) hx hb dX3_isEpoch_19 (by decide) ?_
      refine mr_top (y := bI false) (by decide) ?_
      have eF : false = fX3_isEpoch ec e0 := by unfold fX3_isEpoch; rw [if_neg c1, if_pos c3]
      exact mr_zret (b := false) C0 hr hlk hQ hS (by rw [← eF]) hM (Nat.le_refl _) (Nat.le_refl _) dX3_isEpoch_20
    · skip
      refine lv_iconst (v := nI 1) hx hb dX3_isEpoch_15 (by decide) ?_
      refine lv_goto (tgt := 20) hx hb dX3_isEpoch_16 (by decide) ?_
      refine mr_top (y := bI true) (by decide) ?_
      have eF : true = fX3_isEpoch ec e0 := by unfold fX3_isEpoch; rw [if_neg c1, if_neg c3]
      exact mr_zret (b := true) C0 hr hlk hQ hS (by rw [← eF]) hM (Nat.le_refl _) (Nat.le_refl _) dX3_isEpoch_20
def fX3_isEpochOrDraft (ec : Nat) (e0 : Int32) : Bool :=
  if e0 = (-1) then true else if fX3_isEpoch ec e0 = true then true else false
set_option maxHeartbeats 4000000 in
set_option maxRecDepth 100000 in
theorem ctX3_isEpochOrDraft {l : Launch} {D : va_G} {T : Nat → ClassId} {L : List Nat} {A : Nat → Prop} {Sh : hm_S} {I : hm_I} {J : hm_J} {x p f h m k j : Nat} {hs im : Nat → Nat} (hX : IsX L Sh x p f h m k j hs im) (hA : ApX x p f h m k j hs im) {c : Nat → Nat} {e : Nat → Nat → Nat} {ec lc : Nat} (hW : WfS I p c e ec lc) {e0 : Int32} :
    Ct l yX3_isEpochOrDraft wsX3_isEpochOrDraft { frames := 1, cells := 0, slots := 0, locals := 21 } 0 0 D T A [.ref x, .int e0] (hm D T L A Sh I J) (some (.int (bI (fX3_isEpochOrDraft ec e0)))) (hm D T L A Sh I J) := by
  refine Ct.ofW (cc := cX3_isEpochOrDraft) (maxL := 2) (ret := (some .boolean)) (by decide) rfl (Nat.le_of_ble_eq_true rfl) ?_
  intro p_ e_ s_ m_ args_ below_ meth_ c_ ls R Qq hR hQ C0 hr hlk hname hM hl
  have hx := C0.1.1
  have hb := C0.1.2.1
  have hS : va_S A s_.heap s_.heap [] := va_S.rf
  have hl : lv_has ls 2 [(0, .ref x), (1, .int e0)] := hl
  refine lv_iload_n hx hb dX3_isEpochOrDraft_0 rfl (lv_at hl 1 rfl) ?_
  refine lv_iconst (v := (-1)) hx hb dX3_isEpochOrDraft_1 (by decide) ?_
  refine lv_icmp_eq (tgt := 13) hx hb dX3_isEpochOrDraft_2 (by decide) (fun c1 => ?_) (fun c1 => ?_)
  · skip
    refine lv_iconst (v := nI 1) hx hb dX3_isEpochOrDraft_13 (by decide) ?_
    refine lv_goto (tgt := 18) hx hb dX3_isEpochOrDraft_14 (by decide) ?_
    refine mr_top (y := bI true) (by decide) ?_
    have eF : true = fX3_isEpochOrDraft ec e0 := by unfold fX3_isEpochOrDraft; rw [if_pos c1]
    exact mr_zret (b := true) C0 hr hlk hQ hS (by rw [← eF]) hM (Nat.le_refl _) (Nat.le_refl _) dX3_isEpochOrDraft_18
  · skip
    refine lv_aload_n hx hb dX3_isEpochOrDraft_5 rfl (lv_at hl 0 rfl) ?_
    refine lv_iload_n hx hb dX3_isEpochOrDraft_6 rfl (lv_at hl 1 rfl) ?_
    refine mr_callV (As := [.int e0]) C0 (ctX3_isEpoch (I := I) (J := J) (e0 := e0) hX hA hW) (cwV 1 C0.1.2.2.2.2 gX3_isEpochOrDraft_X3_isEpoch rfl rfl rfl (by decide +kernel) (by rw [hR]; exact ⟨Nat.le_of_ble_eq_true rfl, Nat.le_of_ble_eq_true rfl⟩)) hM hX.1.1 hX.1.2 rfl rfl hM hS rfl rfl rfl hl.1 (Nat.le_of_ble_eq_true rfl) dX3_isEpochOrDraft_7 (by rw [hR]; exact ⟨Nat.zero_le _, Nat.zero_le _⟩) (fun H locs hM hS => ?_)
    refine mr_eqB (tgt := 17) C0 dX3_isEpochOrDraft_10 (by decide) (fun c2 => ?_) (fun c2 => ?_)
    · skip
      refine lv_iconst (v := nI 0) hx hb dX3_isEpochOrDraft_17 (by decide) ?_
      refine mr_top (y := bI false) (by decide) ?_
      have eF : false = fX3_isEpochOrDraft ec e0 := by unfold fX3_isEpochOrDraft; rw [if_neg c1, if_neg (Bool.eq_false_iff.mp c2)]
      exact mr_zret (b := false) C0 hr hlk hQ hS (by rw [← eF]) hM (Nat.le_refl _) (Nat.le_refl _) dX3_isEpochOrDraft_18
    · skip
      refine lv_iconst (v := nI 1) hx hb dX3_isEpochOrDraft_13 (by decide) ?_
      refine lv_goto (tgt := 18) hx hb dX3_isEpochOrDraft_14 (by decide) ?_
      refine mr_top (y := bI true) (by decide) ?_
      have eF : true = fX3_isEpochOrDraft ec e0 := by unfold fX3_isEpochOrDraft; rw [if_neg c1, if_pos c2]
      exact mr_zret (b := true) C0 hr hlk hQ hS (by rw [← eF]) hM (Nat.le_refl _) (Nat.le_refl _) dX3_isEpochOrDraft_18
set_option maxHeartbeats 4000000 in
set_option maxRecDepth 100000 in
theorem ctX3_open_b {l : Launch} {D : va_G} {T : Nat → ClassId} {L : List Nat} {A : Nat → Prop} {Sh : hm_S} {I : hm_I} {J : hm_J} {x p f h m k j : Nat} {hs im : Nat → Nat} (hX : IsX L Sh x p f h m k j hs im) {s0 w0 : Int32} (hb0 : (fX3_isStream s0 && fX3_isWithin w0 (nI 1) (nI 9)) = false) :
    Ct l yX3_open wsX3_open { frames := 1, cells := 0, slots := 0, locals := 22 } 0 0 D T A [.ref x, .int s0, .int w0] (hm D T L A Sh I J) (some (.int (-1))) (hm D T L A Sh I J) := by
  refine Ct.ofW (cc := cX3_open) (maxL := 3) (ret := (some .int)) (by decide) rfl (Nat.le_of_ble_eq_true rfl) ?_
  intro p_ e_ s_ m_ args_ below_ meth_ c_ ls R Qq hR hQ C0 hr hlk hname hM hl
  have hx := C0.1.1
  have hb := C0.1.2.1
  have hS : va_S A s_.heap s_.heap [] := va_S.rf
  have hl : lv_has ls 3 [(0, .ref x), (1, .int s0), (2, .int w0)] := hl
  refine lv_iload_n hx hb dX3_open_0 rfl (lv_at hl 1 rfl) ?_
  refine mr_callS (As := [.int s0]) C0 (ctX3_isStream (I := I) (J := J) (s0 := s0) ) (va_cwS 1 C0.1.2.2.2.2 gX3_open_X3_isStream rfl rfl rfl (by decide +kernel) (by rw [hR]; exact ⟨Nat.le_of_ble_eq_true rfl, Nat.le_of_ble_eq_true rfl⟩)) hM hS rfl rfl rfl hl.1 (Nat.le_of_ble_eq_true rfl) dX3_open_1 (by rw [hR]; exact ⟨Nat.zero_le _, Nat.zero_le _⟩) (fun H locs hM hS => ?_)
  refine mr_eqB (tgt := 17) C0 dX3_open_4 (by decide) (fun c1 => ?_) (fun c1 => ?_)
  · skip
    refine lv_iconst (v := (-1)) hx hb dX3_open_17 (by decide) ?_
    skip
    exact mr_iret (v := (-1)) C0 hr hlk hQ hS rfl hM (Nat.le_refl _) (Nat.le_refl _) dX3_open_18
  · skip
    refine lv_iload_n hx hb dX3_open_7 rfl (lv_at hl 2 rfl) ?_
    refine lv_iconst (v := nI 1) hx hb dX3_open_8 (by decide) ?_
    refine lv_bipush (v := nI 9) hx hb dX3_open_9 (by decide) ?_
    refine mr_callS (As := [.int w0, .int (nI 1), .int (nI 9)]) C0 (ctX3_isWithin (I := I) (J := J) (v := w0) (lo := (nI 1)) (up := (nI 9)) ) (va_cwS 3 C0.1.2.2.2.2 gX3_open_X3_isWithin rfl rfl rfl (by decide +kernel) (by rw [hR]; exact ⟨Nat.le_of_ble_eq_true rfl, Nat.le_of_ble_eq_true rfl⟩)) hM hS rfl rfl rfl hl.1 (Nat.le_of_ble_eq_true rfl) dX3_open_11 (by rw [hR]; exact ⟨Nat.zero_le _, Nat.zero_le _⟩) (fun H locs hM hS => ?_)
    refine mr_neB (tgt := 19) C0 dX3_open_14 (by decide) (fun c2 => absurd hb0 (by rw [c1, c2]; decide)) (fun c2 => ?_)
    refine lv_iconst (v := (-1)) hx hb dX3_open_17 (by decide) ?_
    skip
    exact mr_iret (v := (-1)) C0 hr hlk hQ hS rfl hM (Nat.le_refl _) (Nat.le_refl _) dX3_open_18
set_option maxHeartbeats 4000000 in
set_option maxRecDepth 100000 in
theorem ctX3_open_s {l : Launch} {D : va_G} {T : Nat → ClassId} {L : List Nat} {A : Nat → Prop} {Sh : hm_S} {I : hm_I} {J : hm_J} {x p f h m k j : Nat} {hs im : Nat → Nat} (hX : IsX L Sh x p f h m k j hs im) (hA : ApX x p f h m k j hs im) {c : Nat → Nat} {e : Nat → Nat → Nat} {ec lc : Nat} (hW : WfS I p c e ec lc) {n : Nat} (hn : I x 3 = nI n) (hn8 : n ≤ 8) {s0 : Nat} (hs0 : s0 < 8) {w0 : Int32} (hw0 : fX3_isWithin w0 (nI 1) (nI 9) = true) (ho : fX2_isOpen I p (nI s0) = true) :
    Ct l yX3_open wsX3_open { frames := 2, cells := 0, slots := 0, locals := 42 } 0 0 D T A [.ref x, .int (nI s0), .int w0] (hm D T L A Sh I J) (some (.int (-2))) (hm D T L A Sh I J) := by
  refine Ct.ofW (cc := cX3_open) (maxL := 3) (ret := (some .int)) (by decide) rfl (Nat.le_of_ble_eq_true rfl) ?_
  intro p_ e_ s_ m_ args_ below_ meth_ c_ ls R Qq hR hQ C0 hr hlk hname hM hl
  have hx := C0.1.1
  have hb := C0.1.2.1
  have hS : va_S A s_.heap s_.heap [] := va_S.rf
  have hl : lv_has ls 3 [(0, .ref x), (1, .int (nI s0)), (2, .int w0)] := hl
  have hec10 := hW.2.2.2.2.1
  have hec1 := hW.2.2.2.1
  refine lv_iload_n hx hb dX3_open_0 rfl (lv_at hl 1 rfl) ?_
  refine mr_callS (As := [.int (nI s0)]) C0 (ctX3_isStream_t (I := I) (J := J) (s0 := s0) (by omega)) (va_cwS 1 C0.1.2.2.2.2 gX3_open_X3_isStream rfl rfl rfl (by decide +kernel) (by rw [hR]; exact ⟨Nat.le_of_ble_eq_true rfl, Nat.le_of_ble_eq_true rfl⟩)) hM hS rfl rfl rfl hl.1 (Nat.le_of_ble_eq_true rfl) dX3_open_1 (by rw [hR]; exact ⟨Nat.zero_le _, Nat.zero_le _⟩) (fun H locs hM hS => ?_)
  refine mr_eqB (tgt := 17) C0 dX3_open_4 (by decide) (fun c1 => absurd c1 (by decide)) (fun _ => ?_)
  refine lv_iload_n hx hb dX3_open_7 rfl (lv_at hl 2 rfl) ?_
  refine lv_iconst (v := nI 1) hx hb dX3_open_8 (by decide) ?_
  refine lv_bipush (v := nI 9) hx hb dX3_open_9 (by decide) ?_
  refine mr_callS (As := [.int w0, .int (nI 1), .int (nI 9)]) C0 (ctX3_isWithin (I := I) (J := J) (v := w0) (lo := (nI 1)) (up := (nI 9)) ) (va_cwS 3 C0.1.2.2.2.2 gX3_open_X3_isWithin rfl rfl rfl (by decide +kernel) (by rw [hR]; exact ⟨Nat.le_of_ble_eq_true rfl, Nat.le_of_ble_eq_true rfl⟩)) hM hS rfl rfl rfl hl.1 (Nat.le_of_ble_eq_true rfl) dX3_open_11 (by rw [hR]; exact ⟨Nat.zero_le _, Nat.zero_le _⟩) (fun H locs hM hS => ?_)
  refine mr_neB (tgt := 19) C0 dX3_open_14 (by decide) (fun c2 => ?_) (fun c2 => absurd c2 (by rw [hw0]; decide))
  refine lv_aload_n hx hb dX3_open_19 rfl (lv_at hl 0 rfl) ?_
  refine mr_getr (r := p) (TT := TX3) (N := 7) C0 uX3_open_X3 hM hX.1.1 hX.1.2 rfl 0 (by decide) rfl kX3_open_f10 rfl dX3_open_20 ?_
  refine lv_iload_n hx hb dX3_open_23 rfl (lv_at hl 1 rfl) ?_
  refine mr_callV (As := [.int (nI s0)]) C0 (ctX2_isOpen (I := I) (J := J) (q := p) (s0 := (nI s0)) hX.2.1) (cwV 1 C0.1.2.2.2.2 gX3_open_X2_isOpen rfl rfl rfl (by decide +kernel) (by rw [hR]; exact ⟨Nat.le_of_ble_eq_true rfl, Nat.le_of_ble_eq_true rfl⟩)) hM hX.2.1.1.1 hX.2.1.1.2 rfl rfl hM hS rfl rfl rfl hl.1 (Nat.le_of_ble_eq_true rfl) dX3_open_24 (by rw [hR]; exact ⟨Nat.zero_le _, Nat.zero_le _⟩) (fun H locs hM hS => ?_)
  refine mr_eqB (tgt := 33) C0 dX3_open_27 (by decide) (fun c3 => absurd c3 (by rw [ho]; decide)) (fun c3 => ?_)
  refine lv_bipush (v := (-2)) hx hb dX3_open_30 (by decide) ?_
  skip
  exact mr_iret (v := (-2)) C0 hr hlk hQ hS rfl hM (Nat.le_refl _) (Nat.le_refl _) dX3_open_32
def fX3_open_t (I : hm_I) (x p n : Nat) (hs c : Nat → Nat) (ec lc : Nat) (s0 : Nat) (w0 : Int32) : Int32 × hm_I :=
  (fJ6_bitCount_0f7a4 ((fX2_openStream_t (recI I x p n hs c ec lc) p s0 w0) p 0), fX2_openStream_t (recI I x p n hs c ec lc) p s0 w0)
set_option maxHeartbeats 4000000 in
set_option maxRecDepth 100000 in
theorem ctX3_open_t {l : Launch} {D : va_G} {T : Nat → ClassId} {L : List Nat} {A : Nat → Prop} {Sh : hm_S} {I : hm_I} {J : hm_J} {x p f h m k j : Nat} {hs im : Nat → Nat} (hX : IsX L Sh x p f h m k j hs im) (hA : ApX x p f h m k j hs im) {c : Nat → Nat} {e : Nat → Nat → Nat} {ec lc : Nat} (hW : WfS I p c e ec lc) {n : Nat} (hn : I x 3 = nI n) (hn8 : n ≤ 8) {s0 : Nat} (hs0 : s0 < 8) {w0 : Int32} (hw0 : fX3_isWithin w0 (nI 1) (nI 9) = true) (ho : fX2_isOpen I p (nI s0) = false) :
    Ct l yX3_open wsX3_open { frames := 4, cells := 0, slots := 0, locals := 85 } 0 0 D T A [.ref x, .int (nI s0), .int w0] (hm D T L A Sh I J) (some (.int ((fX3_open_t I x p n hs c ec lc s0 w0).1))) (hm D T L A (recSh Sh h hs n) ((fX3_open_t I x p n hs c ec lc s0 w0).2) J) := by
  refine Ct.ofW (cc := cX3_open) (maxL := 3) (ret := (some .int)) (by decide) rfl (Nat.le_of_ble_eq_true rfl) ?_
  intro p_ e_ s_ m_ args_ below_ meth_ c_ ls R Qq hR hQ C0 hr hlk hname hM hl
  have hx := C0.1.1
  have hb := C0.1.2.1
  have hS : va_S A s_.heap s_.heap [] := va_S.rf
  have hl : lv_has ls 3 [(0, .ref x), (1, .int (nI s0)), (2, .int w0)] := hl
  have hec10 := hW.2.2.2.2.1
  have hec1 := hW.2.2.2.1
  refine lv_iload_n hx hb dX3_open_0 rfl (lv_at hl 1 rfl) ?_
  refine mr_callS (As := [.int (nI s0)]) C0 (ctX3_isStream_t (I := I) (J := J) (s0 := s0) (by omega)) (va_cwS 1 C0.1.2.2.2.2 gX3_open_X3_isStream rfl rfl rfl (by decide +kernel) (by rw [hR]; exact ⟨Nat.le_of_ble_eq_true rfl, Nat.le_of_ble_eq_true rfl⟩)) hM hS rfl rfl rfl hl.1 (Nat.le_of_ble_eq_true rfl) dX3_open_1 (by rw [hR]; exact ⟨Nat.zero_le _, Nat.zero_le _⟩) (fun H locs hM hS => ?_)
  refine mr_eqB (tgt := 17) C0 dX3_open_4 (by decide) (fun c1 => absurd c1 (by decide)) (fun _ => ?_)
  refine lv_iload_n hx hb dX3_open_7 rfl (lv_at hl 2 rfl) ?_
  refine lv_iconst (v := nI 1) hx hb dX3_open_8 (by decide) ?_
  refine lv_bipush (v := nI 9) hx hb dX3_open_9 (by decide) ?_
  refine mr_callS (As := [.int w0, .int (nI 1), .int (nI 9)]) C0 (ctX3_isWithin (I := I) (J := J) (v := w0) (lo := (nI 1)) (up := (nI 9)) ) (va_cwS 3 C0.1.2.2.2.2 gX3_open_X3_isWithin rfl rfl rfl (by decide +kernel) (by rw [hR]; exact ⟨Nat.le_of_ble_eq_true rfl, Nat.le_of_ble_eq_true rfl⟩)) hM hS rfl rfl rfl hl.1 (Nat.le_of_ble_eq_true rfl) dX3_open_11 (by rw [hR]; exact ⟨Nat.zero_le _, Nat.zero_le _⟩) (fun H locs hM hS => ?_)
  refine mr_neB (tgt := 19) C0 dX3_open_14 (by decide) (fun c2 => ?_) (fun c2 => absurd c2 (by rw [hw0]; decide))
  refine lv_aload_n hx hb dX3_open_19 rfl (lv_at hl 0 rfl) ?_
  refine mr_getr (r := p) (TT := TX3) (N := 7) C0 uX3_open_X3 hM hX.1.1 hX.1.2 rfl 0 (by decide) rfl kX3_open_f10 rfl dX3_open_20 ?_
  refine lv_iload_n hx hb dX3_open_23 rfl (lv_at hl 1 rfl) ?_
  refine mr_callV (As := [.int (nI s0)]) C0 (ctX2_isOpen (I := I) (J := J) (q := p) (s0 := (nI s0)) hX.2.1) (cwV 1 C0.1.2.2.2.2 gX3_open_X2_isOpen rfl rfl rfl (by decide +kernel) (by rw [hR]; exact ⟨Nat.le_of_ble_eq_true rfl, Nat.le_of_ble_eq_true rfl⟩)) hM hX.2.1.1.1 hX.2.1.1.2 rfl rfl hM hS rfl rfl rfl hl.1 (Nat.le_of_ble_eq_true rfl) dX3_open_24 (by rw [hR]; exact ⟨Nat.zero_le _, Nat.zero_le _⟩) (fun H locs hM hS => ?_)
  refine mr_eqB (tgt := 33) C0 dX3_open_27 (by decide) (fun c3 => ?_) (fun c3 => absurd c3 (by rw [ho]; decide))
  refine lv_aload_n hx hb dX3_open_33 rfl (lv_at hl 0 rfl) ?_
  refine mr_callV (As := []) C0 (ctX3_record (I := I) (J := J) hX hA hW hn (by omega)) (cwV 0 C0.1.2.2.2.2 gX3_open_X3_record rfl rfl rfl (by decide +kernel) (by rw [hR]; exact ⟨Nat.le_of_ble_eq_true rfl, Nat.le_of_ble_eq_true rfl⟩)) hM hX.1.1 hX.1.2 rfl rfl hM hS rfl rfl rfl hl.1 (Nat.le_of_ble_eq_true rfl) dX3_open_34 (by rw [hR]; exact ⟨Nat.zero_le _, Nat.zero_le _⟩) (fun H locs hM hS => ?_)
  have hX2 := IsX_rec (n := n) hX hA
  refine lv_aload_n hx hb dX3_open_37 rfl (lv_at hl 0 rfl) ?_
  refine mr_getr (r := p) (TT := TX3) (N := 7) C0 uX3_open_X3 hM hX2.1.1 hX2.1.2 rfl 0 (by decide) rfl kX3_open_f10 rfl dX3_open_38 ?_
  refine lv_iload_n hx hb dX3_open_41 rfl (lv_at hl 1 rfl) ?_
  refine lv_iload_n hx hb dX3_open_42 rfl (lv_at hl 2 rfl) ?_
  refine mr_callV (As := [.int (nI s0), .int w0]) C0 (ctX2_openStream_t (I := (recI I x p n hs c ec lc)) (J := J) (q := p) (s0 := s0) (w0 := w0) hX2.2.1 (by omega)) (cwV 2 C0.1.2.2.2.2 gX3_open_X2_openStream rfl rfl rfl (by decide +kernel) (by rw [hR]; exact ⟨Nat.le_of_ble_eq_true rfl, Nat.le_of_ble_eq_true rfl⟩)) hM hX2.2.1.1.1 hX2.2.1.1.2 rfl rfl hM hS rfl rfl rfl hl.1 (Nat.le_of_ble_eq_true rfl) dX3_open_43 (by rw [hR]; exact ⟨Nat.zero_le _, Nat.zero_le _⟩) (fun H locs hM hS => ?_)
  refine lv_aload_n hx hb dX3_open_46 rfl (lv_at hl 0 rfl) ?_
  refine mr_getr (r := p) (TT := TX3) (N := 7) C0 uX3_open_X3 hM hX2.1.1 hX2.1.2 rfl 0 (by decide) rfl kX3_open_f10 rfl dX3_open_47 ?_
  refine mr_geti (v := (fX2_openStream_t (recI I x p n hs c ec lc) p s0 w0) p 0) (TT := TX2) (N := 10) C0 uX3_open_X2 hM hX2.2.1.1.1 hX2.2.1.1.2 rfl 0 (by decide) rfl rfl kX3_open_f56 rfl dX3_open_50 ?_
  refine mr_callS (As := [.int ((fX2_openStream_t (recI I x p n hs c ec lc) p s0 w0) p 0)]) C0 (ctJ6_bitCount_0f7a4 (I := (fX2_openStream_t (recI I x p n hs c ec lc) p s0 w0)) (J := J) (u0 := ((fX2_openStream_t (recI I x p n hs c ec lc) p s0 w0) p 0)) ) (va_cwS 1 C0.1.2.2.2.2 gX3_open_J6_bitCount_0f7a4 rfl rfl rfl (by decide +kernel) (by rw [hR]; exact ⟨Nat.le_of_ble_eq_true rfl, Nat.le_of_ble_eq_true rfl⟩)) hM hS rfl rfl rfl hl.1 (Nat.le_of_ble_eq_true rfl) dX3_open_53 (by rw [hR]; exact ⟨Nat.zero_le _, Nat.zero_le _⟩) (fun H locs hM hS => ?_)
  have eF : (fJ6_bitCount_0f7a4 ((fX2_openStream_t (recI I x p n hs c ec lc) p s0 w0) p 0), fX2_openStream_t (recI I x p n hs c ec lc) p s0 w0) = fX3_open_t I x p n hs c ec lc s0 w0 := rfl
  exact mr_iret (v := fJ6_bitCount_0f7a4 ((fX2_openStream_t (recI I x p n hs c ec lc) p s0 w0) p 0)) C0 hr hlk hQ hS (by rw [← eF]) (by rw [← eF]; exact hM) (Nat.le_refl _) (Nat.le_refl _) dX3_open_56
set_option maxHeartbeats 4000000 in
set_option maxRecDepth 100000 in
theorem ctX3_close_b {l : Launch} {D : va_G} {T : Nat → ClassId} {L : List Nat} {A : Nat → Prop} {Sh : hm_S} {I : hm_I} {J : hm_J} {x p f h m k j : Nat} {hs im : Nat → Nat} (hX : IsX L Sh x p f h m k j hs im) {s0 : Int32} (hb0 : fX3_isStream s0 = false) :
    Ct l yX3_close wsX3_close { frames := 1, cells := 0, slots := 0, locals := 20 } 0 0 D T A [.ref x, .int s0] (hm D T L A Sh I J) (some (.int (-1))) (hm D T L A Sh I J) := by
  refine Ct.ofW (cc := cX3_close) (maxL := 2) (ret := (some .int)) (by decide) rfl (Nat.le_of_ble_eq_true rfl) ?_
  intro p_ e_ s_ m_ args_ below_ meth_ c_ ls R Qq hR hQ C0 hr hlk hname hM hl
  have hx := C0.1.1
  have hb := C0.1.2.1
  have hS : va_S A s_.heap s_.heap [] := va_S.rf
  have hl : lv_has ls 2 [(0, .ref x), (1, .int s0)] := hl
  refine lv_iload_n hx hb dX3_close_0 rfl (lv_at hl 1 rfl) ?_
  refine mr_callS (As := [.int s0]) C0 (ctX3_isStream (I := I) (J := J) (s0 := s0) ) (va_cwS 1 C0.1.2.2.2.2 gX3_close_X3_isStream rfl rfl rfl (by decide +kernel) (by rw [hR]; exact ⟨Nat.le_of_ble_eq_true rfl, Nat.le_of_ble_eq_true rfl⟩)) hM hS rfl rfl rfl hl.1 (Nat.le_of_ble_eq_true rfl) dX3_close_1 (by rw [hR]; exact ⟨Nat.zero_le _, Nat.zero_le _⟩) (fun H locs hM hS => ?_)
  refine mr_neB (tgt := 9) C0 dX3_close_4 (by decide) (fun c1 => absurd c1 (by rw [hb0]; decide)) (fun c1 => ?_)
  refine lv_iconst (v := (-1)) hx hb dX3_close_7 (by decide) ?_
  skip
  exact mr_iret (v := (-1)) C0 hr hlk hQ hS rfl hM (Nat.le_refl _) (Nat.le_refl _) dX3_close_8
set_option maxHeartbeats 4000000 in
set_option maxRecDepth 100000 in
theorem ctX3_close_s {l : Launch} {D : va_G} {T : Nat → ClassId} {L : List Nat} {A : Nat → Prop} {Sh : hm_S} {I : hm_I} {J : hm_J} {x p f h m k j : Nat} {hs im : Nat → Nat} (hX : IsX L Sh x p f h m k j hs im) (hA : ApX x p f h m k j hs im) {c : Nat → Nat} {e : Nat → Nat → Nat} {ec lc : Nat} (hW : WfS I p c e ec lc) {n : Nat} (hn : I x 3 = nI n) (hn8 : n ≤ 8) {s0 : Nat} (hs0 : s0 < 8) (hst : fX2_isOpen I p (nI s0) = true → 0 < c s0) :
    Ct l yX3_close wsX3_close { frames := 2, cells := 0, slots := 0, locals := 42 } 0 0 D T A [.ref x, .int (nI s0)] (hm D T L A Sh I J) (some (.int (-2))) (hm D T L A Sh I J) := by
  refine Ct.ofW (cc := cX3_close) (maxL := 2) (ret := (some .int)) (by decide) rfl (Nat.le_of_ble_eq_true rfl) ?_
  intro p_ e_ s_ m_ args_ below_ meth_ c_ ls R Qq hR hQ C0 hr hlk hname hM hl
  have hx := C0.1.1
  have hb := C0.1.2.1
  have hS : va_S A s_.heap s_.heap [] := va_S.rf
  have hl : lv_has ls 2 [(0, .ref x), (1, .int (nI s0))] := hl
  have hec10 := hW.2.2.2.2.1
  have hec1 := hW.2.2.2.1
  refine lv_iload_n hx hb dX3_close_0 rfl (lv_at hl 1 rfl) ?_
  refine mr_callS (As := [.int (nI s0)]) C0 (ctX3_isStream_t (I := I) (J := J) (s0 := s0) (by omega)) (va_cwS 1 C0.1.2.2.2.2 gX3_close_X3_isStream rfl rfl rfl (by decide +kernel) (by rw [hR]; exact ⟨Nat.le_of_ble_eq_true rfl, Nat.le_of_ble_eq_true rfl⟩)) hM hS rfl rfl rfl hl.1 (Nat.le_of_ble_eq_true rfl) dX3_close_1 (by rw [hR]; exact ⟨Nat.zero_le _, Nat.zero_le _⟩) (fun H locs hM hS => ?_)
  refine mr_neB (tgt := 9) C0 dX3_close_4 (by decide) (fun _ => ?_) (fun c1 => absurd c1 (by decide))
  refine lv_aload_n hx hb dX3_close_9 rfl (lv_at hl 0 rfl) ?_
  refine mr_getr (r := p) (TT := TX3) (N := 7) C0 uX3_close_X3 hM hX.1.1 hX.1.2 rfl 0 (by decide) rfl kX3_close_f10 rfl dX3_close_10 ?_
  refine lv_iload_n hx hb dX3_close_13 rfl (lv_at hl 1 rfl) ?_
  refine mr_callV (As := [.int (nI s0)]) C0 (ctX2_isOpen (I := I) (J := J) (q := p) (s0 := (nI s0)) hX.2.1) (cwV 1 C0.1.2.2.2.2 gX3_close_X2_isOpen rfl rfl rfl (by decide +kernel) (by rw [hR]; exact ⟨Nat.le_of_ble_eq_true rfl, Nat.le_of_ble_eq_true rfl⟩)) hM hX.2.1.1.1 hX.2.1.1.2 rfl rfl hM hS rfl rfl rfl hl.1 (Nat.le_of_ble_eq_true rfl) dX3_close_14 (by rw [hR]; exact ⟨Nat.zero_le _, Nat.zero_le _⟩) (fun H locs hM hS => ?_)
  refine mr_eqB (tgt := 35) C0 dX3_close_17 (by decide) (fun c2 => ?_) (fun c2 => ?_)
  · skip
    refine lv_bipush (v := (-2)) hx hb dX3_close_35 (by decide) ?_
    skip
    exact mr_iret (v := (-2)) C0 hr hlk hQ hS rfl hM (Nat.le_refl _) (Nat.le_refl _) dX3_close_37
  · skip
    refine lv_aload_n hx hb dX3_close_20 rfl (lv_at hl 0 rfl) ?_
    refine mr_getr (r := p) (TT := TX3) (N := 7) C0 uX3_close_X3 hM hX.1.1 hX.1.2 rfl 0 (by decide) rfl kX3_close_f10 rfl dX3_close_21 ?_
    refine mr_getr (r := p + 3) (TT := TX2) (N := 10) C0 uX3_close_X2 hM hX.2.1.1.1 hX.2.1.1.2 rfl 3 (by decide) rfl kX3_close_f65 rfl dX3_close_24 ?_
    refine lv_iload_n hx hb dX3_close_27 rfl (lv_at hl 1 rfl) ?_
    refine mr_aald (t := 0) (C := RX0) (r := p + 4 + 5 * s0) C0 hM hX.2.1.2.2.2.1.1 hX.2.1.2.2.2.1.2 rfl (by decide) (by omega) rfl dX3_close_28 ?_
    have hw3 := hW.1 s0 (by omega)
    have hw3b := hw3.2
    refine mr_geti (v := nI (c s0)) (TT := TX0) (N := 5) C0 uX3_close_X0 hM (hX.2.1.2.2.2.2.1 _ (by omega)).1.1 (hX.2.1.2.2.2.2.1 _ (by omega)).1.2 rfl 4 (by decide) rfl hw3.1 kX3_close_f69 rfl dX3_close_29 ?_
    refine mr_le0N (x := (c s0)) (tgt := 38) C0 dX3_close_32 (by decide) (by omega) (fun c4 => absurd (hst c2) (by omega)) (fun c4 => ?_)
    refine lv_bipush (v := (-2)) hx hb dX3_close_35 (by decide) ?_
    skip
    exact mr_iret (v := (-2)) C0 hr hlk hQ hS rfl hM (Nat.le_refl _) (Nat.le_refl _) dX3_close_37
def fX3_close_t (I : hm_I) (x p n : Nat) (hs c : Nat → Nat) (ec lc : Nat) (s0 : Nat) : Int32 × hm_I :=
  ((fX2_closeStream (recI I x p n hs c ec lc) p (nI s0)) (p + 2) s0, fX2_closeStream (recI I x p n hs c ec lc) p (nI s0))
set_option maxHeartbeats 4000000 in
set_option maxRecDepth 100000 in
theorem ctX3_close_t {l : Launch} {D : va_G} {T : Nat → ClassId} {L : List Nat} {A : Nat → Prop} {Sh : hm_S} {I : hm_I} {J : hm_J} {x p f h m k j : Nat} {hs im : Nat → Nat} (hX : IsX L Sh x p f h m k j hs im) (hA : ApX x p f h m k j hs im) {c : Nat → Nat} {e : Nat → Nat → Nat} {ec lc : Nat} (hW : WfS I p c e ec lc) {n : Nat} (hn : I x 3 = nI n) (hn8 : n ≤ 8) {s0 : Nat} (hs0 : s0 < 8) (ho : fX2_isOpen I p (nI s0) = true) (hc0 : c s0 = 0) :
    Ct l yX3_close wsX3_close { frames := 4, cells := 0, slots := 0, locals := 85 } 0 0 D T A [.ref x, .int (nI s0)] (hm D T L A Sh I J) (some (.int ((fX3_close_t I x p n hs c ec lc s0).1))) (hm D T L A (recSh Sh h hs n) ((fX3_close_t I x p n hs c ec lc s0).2) J) := by
  refine Ct.ofW (cc := cX3_close) (maxL := 2) (ret := (some .int)) (by decide) rfl (Nat.le_of_ble_eq_true rfl) ?_
  intro p_ e_ s_ m_ args_ below_ meth_ c_ ls R Qq hR hQ C0 hr hlk hname hM hl
  have hx := C0.1.1
  have hb := C0.1.2.1
  have hS : va_S A s_.heap s_.heap [] := va_S.rf
  have hl : lv_has ls 2 [(0, .ref x), (1, .int (nI s0))] := hl
  have hec10 := hW.2.2.2.2.1
  have hec1 := hW.2.2.2.1
  refine lv_iload_n hx hb dX3_close_0 rfl (lv_at hl 1 rfl) ?_
  refine mr_callS (As := [.int (nI s0)]) C0 (ctX3_isStream_t (I := I) (J := J) (s0 := s0) (by omega)) (va_cwS 1 C0.1.2.2.2.2 gX3_close_X3_isStream rfl rfl rfl (by decide +kernel) (by rw [hR]; exact ⟨Nat.le_of_ble_eq_true rfl, Nat.le_of_ble_eq_true rfl⟩)) hM hS rfl rfl rfl hl.1 (Nat.le_of_ble_eq_true rfl) dX3_close_1 (by rw [hR]; exact ⟨Nat.zero_le _, Nat.zero_le _⟩) (fun H locs hM hS => ?_)
  refine mr_neB (tgt := 9) C0 dX3_close_4 (by decide) (fun _ => ?_) (fun c1 => absurd c1 (by decide))
  refine lv_aload_n hx hb dX3_close_9 rfl (lv_at hl 0 rfl) ?_
  refine mr_getr (r := p) (TT := TX3) (N := 7) C0 uX3_close_X3 hM hX.1.1 hX.1.2 rfl 0 (by decide) rfl kX3_close_f10 rfl dX3_close_10 ?_
  refine lv_iload_n hx hb dX3_close_13 rfl (lv_at hl 1 rfl) ?_
  refine mr_callV (As := [.int (nI s0)]) C0 (ctX2_isOpen (I := I) (J := J) (q := p) (s0 := (nI s0)) hX.2.1) (cwV 1 C0.1.2.2.2.2 gX3_close_X2_isOpen rfl rfl rfl (by decide +kernel) (by rw [hR]; exact ⟨Nat.le_of_ble_eq_true rfl, Nat.le_of_ble_eq_true rfl⟩)) hM hX.2.1.1.1 hX.2.1.1.2 rfl rfl hM hS rfl rfl rfl hl.1 (Nat.le_of_ble_eq_true rfl) dX3_close_14 (by rw [hR]; exact ⟨Nat.zero_le _, Nat.zero_le _⟩) (fun H locs hM hS => ?_)
  refine mr_eqB (tgt := 35) C0 dX3_close_17 (by decide) (fun c2 => absurd c2 (by rw [ho]; decide)) (fun c2 => ?_)
  refine lv_aload_n hx hb dX3_close_20 rfl (lv_at hl 0 rfl) ?_
  refine mr_getr (r := p) (TT := TX3) (N := 7) C0 uX3_close_X3 hM hX.1.1 hX.1.2 rfl 0 (by decide) rfl kX3_close_f10 rfl dX3_close_21 ?_
  refine mr_getr (r := p + 3) (TT := TX2) (N := 10) C0 uX3_close_X2 hM hX.2.1.1.1 hX.2.1.1.2 rfl 3 (by decide) rfl kX3_close_f65 rfl dX3_close_24 ?_
  refine lv_iload_n hx hb dX3_close_27 rfl (lv_at hl 1 rfl) ?_
  refine mr_aald (t := 0) (C := RX0) (r := p + 4 + 5 * s0) C0 hM hX.2.1.2.2.2.1.1 hX.2.1.2.2.2.1.2 rfl (by decide) (by omega) rfl dX3_close_28 ?_
  have hw3 := hW.1 s0 (by omega)
  have hw3b := hw3.2
  refine mr_geti (v := nI (c s0)) (TT := TX0) (N := 5) C0 uX3_close_X0 hM (hX.2.1.2.2.2.2.1 _ (by omega)).1.1 (hX.2.1.2.2.2.2.1 _ (by omega)).1.2 rfl 4 (by decide) rfl hw3.1 kX3_close_f69 rfl dX3_close_29 ?_
  refine mr_le0N (x := (c s0)) (tgt := 38) C0 dX3_close_32 (by decide) (by omega) (fun c4 => ?_) (fun c4 => absurd c4 (by omega))
  refine lv_aload_n hx hb dX3_close_38 rfl (lv_at hl 0 rfl) ?_
  refine mr_callV (As := []) C0 (ctX3_record (I := I) (J := J) hX hA hW hn (by omega)) (cwV 0 C0.1.2.2.2.2 gX3_close_X3_record rfl rfl rfl (by decide +kernel) (by rw [hR]; exact ⟨Nat.le_of_ble_eq_true rfl, Nat.le_of_ble_eq_true rfl⟩)) hM hX.1.1 hX.1.2 rfl rfl hM hS rfl rfl rfl hl.1 (Nat.le_of_ble_eq_true rfl) dX3_close_39 (by rw [hR]; exact ⟨Nat.zero_le _, Nat.zero_le _⟩) (fun H locs hM hS => ?_)
  have hX2 := IsX_rec (n := n) hX hA
  refine lv_aload_n hx hb dX3_close_42 rfl (lv_at hl 0 rfl) ?_
  refine mr_getr (r := p) (TT := TX3) (N := 7) C0 uX3_close_X3 hM hX2.1.1 hX2.1.2 rfl 0 (by decide) rfl kX3_close_f10 rfl dX3_close_43 ?_
  refine lv_iload_n hx hb dX3_close_46 rfl (lv_at hl 1 rfl) ?_
  refine mr_callV (As := [.int (nI s0)]) C0 (ctX2_closeStream (I := (recI I x p n hs c ec lc)) (J := J) (q := p) (s0 := (nI s0)) hX2.2.1) (cwV 1 C0.1.2.2.2.2 gX3_close_X2_closeStream rfl rfl rfl (by decide +kernel) (by rw [hR]; exact ⟨Nat.le_of_ble_eq_true rfl, Nat.le_of_ble_eq_true rfl⟩)) hM hX2.2.1.1.1 hX2.2.1.1.2 rfl rfl hM hS rfl rfl rfl hl.1 (Nat.le_of_ble_eq_true rfl) dX3_close_47 (by rw [hR]; exact ⟨Nat.zero_le _, Nat.zero_le _⟩) (fun H locs hM hS => ?_)
  refine lv_aload_n hx hb dX3_close_50 rfl (lv_at hl 0 rfl) ?_
  refine mr_getr (r := p) (TT := TX3) (N := 7) C0 uX3_close_X3 hM hX2.1.1 hX2.1.2 rfl 0 (by decide) rfl kX3_close_f10 rfl dX3_close_51 ?_
  refine mr_getr (r := p + 2) (TT := TX2) (N := 10) C0 uX3_close_X2 hM hX2.2.1.1.1 hX2.2.1.1.2 rfl 2 (by decide) rfl kX3_close_f78 rfl dX3_close_54 ?_
  refine lv_iload_n hx hb dX3_close_57 rfl (lv_at hl 1 rfl) ?_
  refine mr_ialdN (v := (fX2_closeStream (recI I x p n hs c ec lc) p (nI s0)) (p + 2) s0) C0 hM hX2.2.1.2.2.1.1 hX2.2.1.2.2.1.2 (by decide) (by omega) rfl dX3_close_58 ?_
  have eF : ((fX2_closeStream (recI I x p n hs c ec lc) p (nI s0)) (p + 2) s0, fX2_closeStream (recI I x p n hs c ec lc) p (nI s0)) = fX3_close_t I x p n hs c ec lc s0 := rfl
  exact mr_iret (v := (fX2_closeStream (recI I x p n hs c ec lc) p (nI s0)) (p + 2) s0) C0 hr hlk hQ hS (by rw [← eF]) (by rw [← eF]; exact hM) (Nat.le_refl _) (Nat.le_refl _) dX3_close_59
set_option maxHeartbeats 4000000 in
set_option maxRecDepth 100000 in
theorem ctX3_setWeight_b {l : Launch} {D : va_G} {T : Nat → ClassId} {L : List Nat} {A : Nat → Prop} {Sh : hm_S} {I : hm_I} {J : hm_J} {x p f h m k j : Nat} {hs im : Nat → Nat} (hX : IsX L Sh x p f h m k j hs im) {s0 w0 : Int32} (hb0 : (fX3_isStream s0 && fX3_isWithin w0 (nI 1) (nI 9)) = false) :
    Ct l yX3_setWeight wsX3_setWeight { frames := 1, cells := 0, slots := 0, locals := 22 } 0 0 D T A [.ref x, .int s0, .int w0] (hm D T L A Sh I J) (some (.int (-1))) (hm D T L A Sh I J) := by
  refine Ct.ofW (cc := cX3_setWeight) (maxL := 4) (ret := (some .int)) (by decide) rfl (Nat.le_of_ble_eq_true rfl) ?_
  intro p_ e_ s_ m_ args_ below_ meth_ c_ ls R Qq hR hQ C0 hr hlk hname hM hl
  have hx := C0.1.1
  have hb := C0.1.2.1
  have hS : va_S A s_.heap s_.heap [] := va_S.rf
  have hl : lv_has ls 4 [(0, .ref x), (1, .int s0), (2, .int w0)] := hl
  refine lv_iload_n hx hb dX3_setWeight_0 rfl (lv_at hl 1 rfl) ?_
  refine mr_callS (As := [.int s0]) C0 (ctX3_isStream (I := I) (J := J) (s0 := s0) ) (va_cwS 1 C0.1.2.2.2.2 gX3_setWeight_X3_isStream rfl rfl rfl (by decide +kernel) (by rw [hR]; exact ⟨Nat.le_of_ble_eq_true rfl, Nat.le_of_ble_eq_true rfl⟩)) hM hS rfl rfl rfl hl.1 (Nat.le_of_ble_eq_true rfl) dX3_setWeight_1 (by rw [hR]; exact ⟨Nat.zero_le _, Nat.zero_le _⟩) (fun H locs hM hS => ?_)
  refine mr_eqB (tgt := 17) C0 dX3_setWeight_4 (by decide) (fun c1 => ?_) (fun c1 => ?_)
  · skip
    refine lv_iconst (v := (-1)) hx hb dX3_setWeight_17 (by decide) ?_
    skip
    exact mr_iret (v := (-1)) C0 hr hlk hQ hS rfl hM (Nat.le_refl _) (Nat.le_refl _) dX3_setWeight_18
  · skip
    refine lv_iload_n hx hb dX3_setWeight_7 rfl (lv_at hl 2 rfl) ?_
    refine lv_iconst (v := nI 1) hx hb dX3_setWeight_8 (by decide) ?_
    refine lv_bipush (v := nI 9) hx hb dX3_setWeight_9 (by decide) ?_
    refine mr_callS (As := [.int w0, .int (nI 1), .int (nI 9)]) C0 (ctX3_isWithin (I := I) (J := J) (v := w0) (lo := (nI 1)) (up := (nI 9)) ) (va_cwS 3 C0.1.2.2.2.2 gX3_setWeight_X3_isWithin rfl rfl rfl (by decide +kernel) (by rw [hR]; exact ⟨Nat.le_of_ble_eq_true rfl, Nat.le_of_ble_eq_true rfl⟩)) hM hS rfl rfl rfl hl.1 (Nat.le_of_ble_eq_true rfl) dX3_setWeight_11 (by rw [hR]; exact ⟨Nat.zero_le _, Nat.zero_le _⟩) (fun H locs hM hS => ?_)
    refine mr_neB (tgt := 19) C0 dX3_setWeight_14 (by decide) (fun c2 => absurd hb0 (by rw [c1, c2]; decide)) (fun c2 => ?_)
    refine lv_iconst (v := (-1)) hx hb dX3_setWeight_17 (by decide) ?_
    skip
    exact mr_iret (v := (-1)) C0 hr hlk hQ hS rfl hM (Nat.le_refl _) (Nat.le_refl _) dX3_setWeight_18
set_option maxHeartbeats 4000000 in
set_option maxRecDepth 100000 in
theorem ctX3_setWeight_s {l : Launch} {D : va_G} {T : Nat → ClassId} {L : List Nat} {A : Nat → Prop} {Sh : hm_S} {I : hm_I} {J : hm_J} {x p f h m k j : Nat} {hs im : Nat → Nat} (hX : IsX L Sh x p f h m k j hs im) (hA : ApX x p f h m k j hs im) {c : Nat → Nat} {e : Nat → Nat → Nat} {ec lc : Nat} (hW : WfS I p c e ec lc) {n : Nat} (hn : I x 3 = nI n) (hn8 : n ≤ 8) {s0 : Nat} (hs0 : s0 < 8) {w0 : Int32} (hw0 : fX3_isWithin w0 (nI 1) (nI 9) = true) (ho : fX2_isOpen I p (nI s0) = false) :
    Ct l yX3_setWeight wsX3_setWeight { frames := 2, cells := 0, slots := 0, locals := 42 } 0 0 D T A [.ref x, .int (nI s0), .int w0] (hm D T L A Sh I J) (some (.int (-2))) (hm D T L A Sh I J) := by
  refine Ct.ofW (cc := cX3_setWeight) (maxL := 4) (ret := (some .int)) (by decide) rfl (Nat.le_of_ble_eq_true rfl) ?_
  intro p_ e_ s_ m_ args_ below_ meth_ c_ ls R Qq hR hQ C0 hr hlk hname hM hl
  have hx := C0.1.1
  have hb := C0.1.2.1
  have hS : va_S A s_.heap s_.heap [] := va_S.rf
  have hl : lv_has ls 4 [(0, .ref x), (1, .int (nI s0)), (2, .int w0)] := hl
  have hec10 := hW.2.2.2.2.1
  have hec1 := hW.2.2.2.1
  refine lv_iload_n hx hb dX3_setWeight_0 rfl (lv_at hl 1 rfl) ?_
  refine mr_callS (As := [.int (nI s0)]) C0 (ctX3_isStream_t (I := I) (J := J) (s0 := s0) (by omega)) (va_cwS 1 C0.1.2.2.2.2 gX3_setWeight_X3_isStream rfl rfl rfl (by decide +kernel) (by rw [hR]; exact ⟨Nat.le_of_ble_eq_true rfl, Nat.le_of_ble_eq_true rfl⟩)) hM hS rfl rfl rfl hl.1 (Nat.le_of_ble_eq_true rfl) dX3_setWeight_1 (by rw [hR]; exact ⟨Nat.zero_le _, Nat.zero_le _⟩) (fun H locs hM hS => ?_)
  refine mr_eqB (tgt := 17) C0 dX3_setWeight_4 (by decide) (fun c1 => absurd c1 (by decide)) (fun _ => ?_)
  refine lv_iload_n hx hb dX3_setWeight_7 rfl (lv_at hl 2 rfl) ?_
  refine lv_iconst (v := nI 1) hx hb dX3_setWeight_8 (by decide) ?_
  refine lv_bipush (v := nI 9) hx hb dX3_setWeight_9 (by decide) ?_
  refine mr_callS (As := [.int w0, .int (nI 1), .int (nI 9)]) C0 (ctX3_isWithin (I := I) (J := J) (v := w0) (lo := (nI 1)) (up := (nI 9)) ) (va_cwS 3 C0.1.2.2.2.2 gX3_setWeight_X3_isWithin rfl rfl rfl (by decide +kernel) (by rw [hR]; exact ⟨Nat.le_of_ble_eq_true rfl, Nat.le_of_ble_eq_true rfl⟩)) hM hS rfl rfl rfl hl.1 (Nat.le_of_ble_eq_true rfl) dX3_setWeight_11 (by rw [hR]; exact ⟨Nat.zero_le _, Nat.zero_le _⟩) (fun H locs hM hS => ?_)
  refine mr_neB (tgt := 19) C0 dX3_setWeight_14 (by decide) (fun c2 => ?_) (fun c2 => absurd c2 (by rw [hw0]; decide))
  refine lv_aload_n hx hb dX3_setWeight_19 rfl (lv_at hl 0 rfl) ?_
  refine mr_getr (r := p) (TT := TX3) (N := 7) C0 uX3_setWeight_X3 hM hX.1.1 hX.1.2 rfl 0 (by decide) rfl kX3_setWeight_f10 rfl dX3_setWeight_20 ?_
  refine lv_iload_n hx hb dX3_setWeight_23 rfl (lv_at hl 1 rfl) ?_
  refine mr_callV (As := [.int (nI s0)]) C0 (ctX2_isOpen (I := I) (J := J) (q := p) (s0 := (nI s0)) hX.2.1) (cwV 1 C0.1.2.2.2.2 gX3_setWeight_X2_isOpen rfl rfl rfl (by decide +kernel) (by rw [hR]; exact ⟨Nat.le_of_ble_eq_true rfl, Nat.le_of_ble_eq_true rfl⟩)) hM hX.2.1.1.1 hX.2.1.1.2 rfl rfl hM hS rfl rfl rfl hl.1 (Nat.le_of_ble_eq_true rfl) dX3_setWeight_24 (by rw [hR]; exact ⟨Nat.zero_le _, Nat.zero_le _⟩) (fun H locs hM hS => ?_)
  refine mr_neB (tgt := 33) C0 dX3_setWeight_27 (by decide) (fun c3 => absurd c3 (by rw [ho]; decide)) (fun c3 => ?_)
  refine lv_bipush (v := (-2)) hx hb dX3_setWeight_30 (by decide) ?_
  skip
  exact mr_iret (v := (-2)) C0 hr hlk hQ hS rfl hM (Nat.le_refl _) (Nat.le_refl _) dX3_setWeight_32
def fX3_setWeight_t (I : hm_I) (x p n : Nat) (hs c : Nat → Nat) (ec lc : Nat) (s0 : Nat) (w0 : Int32) : Int32 × hm_I :=
  ((recI I x p n hs c ec lc) (p + 1) s0, hm_put (recI I x p n hs c ec lc) (p + 1) s0 w0)
set_option maxHeartbeats 4000000 in
set_option maxRecDepth 100000 in
theorem ctX3_setWeight_t {l : Launch} {D : va_G} {T : Nat → ClassId} {L : List Nat} {A : Nat → Prop} {Sh : hm_S} {I : hm_I} {J : hm_J} {x p f h m k j : Nat} {hs im : Nat → Nat} (hX : IsX L Sh x p f h m k j hs im) (hA : ApX x p f h m k j hs im) {c : Nat → Nat} {e : Nat → Nat → Nat} {ec lc : Nat} (hW : WfS I p c e ec lc) {n : Nat} (hn : I x 3 = nI n) (hn8 : n ≤ 8) {s0 : Nat} (hs0 : s0 < 8) {w0 : Int32} (hw0 : fX3_isWithin w0 (nI 1) (nI 9) = true) (ho : fX2_isOpen I p (nI s0) = true) :
    Ct l yX3_setWeight wsX3_setWeight { frames := 4, cells := 0, slots := 0, locals := 85 } 0 0 D T A [.ref x, .int (nI s0), .int w0] (hm D T L A Sh I J) (some (.int ((fX3_setWeight_t I x p n hs c ec lc s0 w0).1))) (hm D T L A (recSh Sh h hs n) ((fX3_setWeight_t I x p n hs c ec lc s0 w0).2) J) := by
  refine Ct.ofW (cc := cX3_setWeight) (maxL := 4) (ret := (some .int)) (by decide) rfl (Nat.le_of_ble_eq_true rfl) ?_
  intro p_ e_ s_ m_ args_ below_ meth_ c_ ls R Qq hR hQ C0 hr hlk hname hM hl
  have hx := C0.1.1
  have hb := C0.1.2.1
  have hS : va_S A s_.heap s_.heap [] := va_S.rf
  have hl : lv_has ls 4 [(0, .ref x), (1, .int (nI s0)), (2, .int w0)] := hl
  have hec10 := hW.2.2.2.2.1
  have hec1 := hW.2.2.2.1
  refine lv_iload_n hx hb dX3_setWeight_0 rfl (lv_at hl 1 rfl) ?_
  refine mr_callS (As := [.int (nI s0)]) C0 (ctX3_isStream_t (I := I) (J := J) (s0 := s0) (by omega)) (va_cwS 1 C0.1.2.2.2.2 gX3_setWeight_X3_isStream rfl rfl rfl (by decide +kernel) (by rw [hR]; exact ⟨Nat.le_of_ble_eq_true rfl, Nat.le_of_ble_eq_true rfl⟩)) hM hS rfl rfl rfl hl.1 (Nat.le_of_ble_eq_true rfl) dX3_setWeight_1 (by rw [hR]; exact ⟨Nat.zero_le _, Nat.zero_le _⟩) (fun H locs hM hS => ?_)
  refine mr_eqB (tgt := 17) C0 dX3_setWeight_4 (by decide) (fun c1 => absurd c1 (by decide)) (fun _ => ?_)
  refine lv_iload_n hx hb dX3_setWeight_7 rfl (lv_at hl 2 rfl) ?_
  refine lv_iconst (v := nI 1) hx hb dX3_setWeight_8 (by decide) ?_
  refine lv_bipush (v := nI 9) hx hb dX3_setWeight_9 (by decide) ?_
  refine mr_callS (As := [.int w0, .int (nI 1), .int (nI 9)]) C0 (ctX3_isWithin (I := I) (J := J) (v := w0) (lo := (nI 1)) (up := (nI 9)) ) (va_cwS 3 C0.1.2.2.2.2 gX3_setWeight_X3_isWithin rfl rfl rfl (by decide +kernel) (by rw [hR]; exact ⟨Nat.le_of_ble_eq_true rfl, Nat.le_of_ble_eq_true rfl⟩)) hM hS rfl rfl rfl hl.1 (Nat.le_of_ble_eq_true rfl) dX3_setWeight_11 (by rw [hR]; exact ⟨Nat.zero_le _, Nat.zero_le _⟩) (fun H locs hM hS => ?_)
  refine mr_neB (tgt := 19) C0 dX3_setWeight_14 (by decide) (fun c2 => ?_) (fun c2 => absurd c2 (by rw [hw0]; decide))
  refine lv_aload_n hx hb dX3_setWeight_19 rfl (lv_at hl 0 rfl) ?_
  refine mr_getr (r := p) (TT := TX3) (N := 7) C0 uX3_setWeight_X3 hM hX.1.1 hX.1.2 rfl 0 (by decide) rfl kX3_setWeight_f10 rfl dX3_setWeight_20 ?_
  refine lv_iload_n hx hb dX3_setWeight_23 rfl (lv_at hl 1 rfl) ?_
  refine mr_callV (As := [.int (nI s0)]) C0 (ctX2_isOpen (I := I) (J := J) (q := p) (s0 := (nI s0)) hX.2.1) (cwV 1 C0.1.2.2.2.2 gX3_setWeight_X2_isOpen rfl rfl rfl (by decide +kernel) (by rw [hR]; exact ⟨Nat.le_of_ble_eq_true rfl, Nat.le_of_ble_eq_true rfl⟩)) hM hX.2.1.1.1 hX.2.1.1.2 rfl rfl hM hS rfl rfl rfl hl.1 (Nat.le_of_ble_eq_true rfl) dX3_setWeight_24 (by rw [hR]; exact ⟨Nat.zero_le _, Nat.zero_le _⟩) (fun H locs hM hS => ?_)
  refine mr_neB (tgt := 33) C0 dX3_setWeight_27 (by decide) (fun c3 => ?_) (fun c3 => absurd c3 (by rw [ho]; decide))
  refine lv_aload_n hx hb dX3_setWeight_33 rfl (lv_at hl 0 rfl) ?_
  refine mr_callV (As := []) C0 (ctX3_record (I := I) (J := J) hX hA hW hn (by omega)) (cwV 0 C0.1.2.2.2.2 gX3_setWeight_X3_record rfl rfl rfl (by decide +kernel) (by rw [hR]; exact ⟨Nat.le_of_ble_eq_true rfl, Nat.le_of_ble_eq_true rfl⟩)) hM hX.1.1 hX.1.2 rfl rfl hM hS rfl rfl rfl hl.1 (Nat.le_of_ble_eq_true rfl) dX3_setWeight_34 (by rw [hR]; exact ⟨Nat.zero_le _, Nat.zero_le _⟩) (fun H locs hM hS => ?_)
  have hX2 := IsX_rec (n := n) hX hA
  refine lv_aload_n hx hb dX3_setWeight_37 rfl (lv_at hl 0 rfl) ?_
  refine mr_getr (r := p) (TT := TX3) (N := 7) C0 uX3_setWeight_X3 hM hX2.1.1 hX2.1.2 rfl 0 (by decide) rfl kX3_setWeight_f10 rfl dX3_setWeight_38 ?_
  refine mr_getr (r := p + 1) (TT := TX2) (N := 10) C0 uX3_setWeight_X2 hM hX2.2.1.1.1 hX2.2.1.1.2 rfl 1 (by decide) rfl kX3_setWeight_f82 rfl dX3_setWeight_41 ?_
  refine lv_iload_n hx hb dX3_setWeight_44 rfl (lv_at hl 1 rfl) ?_
  refine mr_ialdN (v := (recI I x p n hs c ec lc) (p + 1) s0) C0 hM hX2.2.1.2.1.1 hX2.2.1.2.1.2 (by decide) (by omega) rfl dX3_setWeight_45 ?_
  refine lv_istore_n (lv' := [(3, .int ((recI I x p n hs c ec lc) (p + 1) s0)), (0, .ref x), (1, .int (nI s0)), (2, .int w0)]) hx hb dX3_setWeight_46 rfl hl (by decide) rfl (fun ls hl => ?_)
  refine lv_aload_n hx hb dX3_setWeight_47 rfl (lv_at hl 1 rfl) ?_
  refine mr_getr (r := p) (TT := TX3) (N := 7) C0 uX3_setWeight_X3 hM hX2.1.1 hX2.1.2 rfl 0 (by decide) rfl kX3_setWeight_f10 rfl dX3_setWeight_48 ?_
  refine mr_getr (r := p + 1) (TT := TX2) (N := 10) C0 uX3_setWeight_X2 hM hX2.2.1.1.1 hX2.2.1.1.2 rfl 1 (by decide) rfl kX3_setWeight_f82 rfl dX3_setWeight_51 ?_
  refine lv_iload_n hx hb dX3_setWeight_54 rfl (lv_at hl 2 rfl) ?_
  refine lv_iload_n hx hb dX3_setWeight_55 rfl (lv_at hl 3 rfl) ?_
  refine mr_iastN C0 hM hS hX2.2.1.2.1.1 hX2.2.1.2.1.2 (by decide) (by omega) dX3_setWeight_56 (fun H locs hM hS => ?_)
  refine lv_iload_n hx hb dX3_setWeight_57 rfl (lv_at hl 0 rfl) ?_
  have eF : ((recI I x p n hs c ec lc) (p + 1) s0, hm_put (recI I x p n hs c ec lc) (p + 1) s0 w0) = fX3_setWeight_t I x p n hs c ec lc s0 w0 := rfl
  exact mr_iret (v := (recI I x p n hs c ec lc) (p + 1) s0) C0 hr hlk hQ hS (by rw [← eF]) (by rw [← eF]; exact hM) (Nat.le_refl _) (Nat.le_refl _) dX3_setWeight_58
set_option maxHeartbeats 4000000 in
set_option maxRecDepth 100000 in
theorem ctX3_push_b {l : Launch} {D : va_G} {T : Nat → ClassId} {L : List Nat} {A : Nat → Prop} {Sh : hm_S} {I : hm_I} {J : hm_J} {x p f h m k j : Nat} {hs im : Nat → Nat} (hX : IsX L Sh x p f h m k j hs im) {s0 w0 : Int32} (hb0 : (fX3_isStream s0 && fX3_isWithin w0 (nI 1) (nI 99)) = false) :
    Ct l yX3_push wsX3_push { frames := 1, cells := 0, slots := 0, locals := 22 } 0 0 D T A [.ref x, .int s0, .int w0] (hm D T L A Sh I J) (some (.int (-1))) (hm D T L A Sh I J) := by
  refine Ct.ofW (cc := cX3_push) (maxL := 3) (ret := (some .int)) (by decide) rfl (Nat.le_of_ble_eq_true rfl) ?_
  intro p_ e_ s_ m_ args_ below_ meth_ c_ ls R Qq hR hQ C0 hr hlk hname hM hl
  have hx := C0.1.1
  have hb := C0.1.2.1
  have hS : va_S A s_.heap s_.heap [] := va_S.rf
  have hl : lv_has ls 3 [(0, .ref x), (1, .int s0), (2, .int w0)] := hl
  refine lv_iload_n hx hb dX3_push_0 rfl (lv_at hl 1 rfl) ?_
  refine mr_callS (As := [.int s0]) C0 (ctX3_isStream (I := I) (J := J) (s0 := s0) ) (va_cwS 1 C0.1.2.2.2.2 gX3_push_X3_isStream rfl rfl rfl (by decide +kernel) (by rw [hR]; exact ⟨Nat.le_of_ble_eq_true rfl, Nat.le_of_ble_eq_true rfl⟩)) hM hS rfl rfl rfl hl.1 (Nat.le_of_ble_eq_true rfl) dX3_push_1 (by rw [hR]; exact ⟨Nat.zero_le _, Nat.zero_le _⟩) (fun H locs hM hS => ?_)
  refine mr_eqB (tgt := 17) C0 dX3_push_4 (by decide) (fun c1 => ?_) (fun c1 => ?_)
  · skip
    refine lv_iconst (v := (-1)) hx hb dX3_push_17 (by decide) ?_
    skip
    exact mr_iret (v := (-1)) C0 hr hlk hQ hS rfl hM (Nat.le_refl _) (Nat.le_refl _) dX3_push_18
  · skip
    refine lv_iload_n hx hb dX3_push_7 rfl (lv_at hl 2 rfl) ?_
    refine lv_iconst (v := nI 1) hx hb dX3_push_8 (by decide) ?_
    refine lv_bipush (v := nI 99) hx hb dX3_push_9 (by decide) ?_
    refine mr_callS (As := [.int w0, .int (nI 1), .int (nI 99)]) C0 (ctX3_isWithin (I := I) (J := J) (v := w0) (lo := (nI 1)) (up := (nI 99)) ) (va_cwS 3 C0.1.2.2.2.2 gX3_push_X3_isWithin rfl rfl rfl (by decide +kernel) (by rw [hR]; exact ⟨Nat.le_of_ble_eq_true rfl, Nat.le_of_ble_eq_true rfl⟩)) hM hS rfl rfl rfl hl.1 (Nat.le_of_ble_eq_true rfl) dX3_push_11 (by rw [hR]; exact ⟨Nat.zero_le _, Nat.zero_le _⟩) (fun H locs hM hS => ?_)
    refine mr_neB (tgt := 19) C0 dX3_push_14 (by decide) (fun c2 => absurd hb0 (by rw [c1, c2]; decide)) (fun c2 => ?_)
    refine lv_iconst (v := (-1)) hx hb dX3_push_17 (by decide) ?_
    skip
    exact mr_iret (v := (-1)) C0 hr hlk hQ hS rfl hM (Nat.le_refl _) (Nat.le_refl _) dX3_push_18
set_option maxHeartbeats 4000000 in
set_option maxRecDepth 100000 in
theorem ctX3_push_s {l : Launch} {D : va_G} {T : Nat → ClassId} {L : List Nat} {A : Nat → Prop} {Sh : hm_S} {I : hm_I} {J : hm_J} {x p f h m k j : Nat} {hs im : Nat → Nat} (hX : IsX L Sh x p f h m k j hs im) (hA : ApX x p f h m k j hs im) {c : Nat → Nat} {e : Nat → Nat → Nat} {ec lc : Nat} (hW : WfS I p c e ec lc) {n : Nat} (hn : I x 3 = nI n) (hn8 : n ≤ 8) {s0 : Nat} (hs0 : s0 < 8) {w0 : Int32} (hw0 : fX3_isWithin w0 (nI 1) (nI 99) = true) (ho : fX2_isOpen I p (nI s0) = false) :
    Ct l yX3_push wsX3_push { frames := 2, cells := 0, slots := 0, locals := 42 } 0 0 D T A [.ref x, .int (nI s0), .int w0] (hm D T L A Sh I J) (some (.int (-2))) (hm D T L A Sh I J) := by
  refine Ct.ofW (cc := cX3_push) (maxL := 3) (ret := (some .int)) (by decide) rfl (Nat.le_of_ble_eq_true rfl) ?_
  intro p_ e_ s_ m_ args_ below_ meth_ c_ ls R Qq hR hQ C0 hr hlk hname hM hl
  have hx := C0.1.1
  have hb := C0.1.2.1
  have hS : va_S A s_.heap s_.heap [] := va_S.rf
  have hl : lv_has ls 3 [(0, .ref x), (1, .int (nI s0)), (2, .int w0)] := hl
  have hec10 := hW.2.2.2.2.1
  have hec1 := hW.2.2.2.1
  refine lv_iload_n hx hb dX3_push_0 rfl (lv_at hl 1 rfl) ?_
  refine mr_callS (As := [.int (nI s0)]) C0 (ctX3_isStream_t (I := I) (J := J) (s0 := s0) (by omega)) (va_cwS 1 C0.1.2.2.2.2 gX3_push_X3_isStream rfl rfl rfl (by decide +kernel) (by rw [hR]; exact ⟨Nat.le_of_ble_eq_true rfl, Nat.le_of_ble_eq_true rfl⟩)) hM hS rfl rfl rfl hl.1 (Nat.le_of_ble_eq_true rfl) dX3_push_1 (by rw [hR]; exact ⟨Nat.zero_le _, Nat.zero_le _⟩) (fun H locs hM hS => ?_)
  refine mr_eqB (tgt := 17) C0 dX3_push_4 (by decide) (fun c1 => absurd c1 (by decide)) (fun _ => ?_)
  refine lv_iload_n hx hb dX3_push_7 rfl (lv_at hl 2 rfl) ?_
  refine lv_iconst (v := nI 1) hx hb dX3_push_8 (by decide) ?_
  refine lv_bipush (v := nI 99) hx hb dX3_push_9 (by decide) ?_
  refine mr_callS (As := [.int w0, .int (nI 1), .int (nI 99)]) C0 (ctX3_isWithin (I := I) (J := J) (v := w0) (lo := (nI 1)) (up := (nI 99)) ) (va_cwS 3 C0.1.2.2.2.2 gX3_push_X3_isWithin rfl rfl rfl (by decide +kernel) (by rw [hR]; exact ⟨Nat.le_of_ble_eq_true rfl, Nat.le_of_ble_eq_true rfl⟩)) hM hS rfl rfl rfl hl.1 (Nat.le_of_ble_eq_true rfl) dX3_push_11 (by rw [hR]; exact ⟨Nat.zero_le _, Nat.zero_le _⟩) (fun H locs hM hS => ?_)
  refine mr_neB (tgt := 19) C0 dX3_push_14 (by decide) (fun c2 => ?_) (fun c2 => absurd c2 (by rw [hw0]; decide))
  refine lv_aload_n hx hb dX3_push_19 rfl (lv_at hl 0 rfl) ?_
  refine mr_getr (r := p) (TT := TX3) (N := 7) C0 uX3_push_X3 hM hX.1.1 hX.1.2 rfl 0 (by decide) rfl kX3_push_f10 rfl dX3_push_20 ?_
  refine lv_iload_n hx hb dX3_push_23 rfl (lv_at hl 1 rfl) ?_
  refine mr_callV (As := [.int (nI s0)]) C0 (ctX2_isOpen (I := I) (J := J) (q := p) (s0 := (nI s0)) hX.2.1) (cwV 1 C0.1.2.2.2.2 gX3_push_X2_isOpen rfl rfl rfl (by decide +kernel) (by rw [hR]; exact ⟨Nat.le_of_ble_eq_true rfl, Nat.le_of_ble_eq_true rfl⟩)) hM hX.2.1.1.1 hX.2.1.1.2 rfl rfl hM hS rfl rfl rfl hl.1 (Nat.le_of_ble_eq_true rfl) dX3_push_24 (by rw [hR]; exact ⟨Nat.zero_le _, Nat.zero_le _⟩) (fun H locs hM hS => ?_)
  refine mr_neB (tgt := 33) C0 dX3_push_27 (by decide) (fun c3 => absurd c3 (by rw [ho]; decide)) (fun c3 => ?_)
  refine lv_bipush (v := (-2)) hx hb dX3_push_30 (by decide) ?_
  skip
  exact mr_iret (v := (-2)) C0 hr hlk hQ hS rfl hM (Nat.le_refl _) (Nat.le_refl _) dX3_push_32
set_option maxHeartbeats 4000000 in
set_option maxRecDepth 100000 in
theorem ctX3_push_f {l : Launch} {D : va_G} {T : Nat → ClassId} {L : List Nat} {A : Nat → Prop} {Sh : hm_S} {I : hm_I} {J : hm_J} {x p f h m k j : Nat} {hs im : Nat → Nat} (hX : IsX L Sh x p f h m k j hs im) (hA : ApX x p f h m k j hs im) {c : Nat → Nat} {e : Nat → Nat → Nat} {ec lc : Nat} (hW : WfS I p c e ec lc) {n : Nat} (hn : I x 3 = nI n) (hn8 : n ≤ 8) {s0 : Nat} (hs0 : s0 < 8) {w0 : Int32} (hw0 : fX3_isWithin w0 (nI 1) (nI 99) = true) (ho : fX2_isOpen I p (nI s0) = true) (hc0 : c s0 = 6) :
    Ct l yX3_push wsX3_push { frames := 2, cells := 0, slots := 0, locals := 42 } 0 0 D T A [.ref x, .int (nI s0), .int w0] (hm D T L A Sh I J) (some (.int (-3))) (hm D T L A Sh I J) := by
  refine Ct.ofW (cc := cX3_push) (maxL := 3) (ret := (some .int)) (by decide) rfl (Nat.le_of_ble_eq_true rfl) ?_
  intro p_ e_ s_ m_ args_ below_ meth_ c_ ls R Qq hR hQ C0 hr hlk hname hM hl
  have hx := C0.1.1
  have hb := C0.1.2.1
  have hS : va_S A s_.heap s_.heap [] := va_S.rf
  have hl : lv_has ls 3 [(0, .ref x), (1, .int (nI s0)), (2, .int w0)] := hl
  have hec10 := hW.2.2.2.2.1
  have hec1 := hW.2.2.2.1
  refine lv_iload_n hx hb dX3_push_0 rfl (lv_at hl 1 rfl) ?_
  refine mr_callS (As := [.int (nI s0)]) C0 (ctX3_isStream_t (I := I) (J := J) (s0 := s0) (by omega)) (va_cwS 1 C0.1.2.2.2.2 gX3_push_X3_isStream rfl rfl rfl (by decide +kernel) (by rw [hR]; exact ⟨Nat.le_of_ble_eq_true rfl, Nat.le_of_ble_eq_true rfl⟩)) hM hS rfl rfl rfl hl.1 (Nat.le_of_ble_eq_true rfl) dX3_push_1 (by rw [hR]; exact ⟨Nat.zero_le _, Nat.zero_le _⟩) (fun H locs hM hS => ?_)
  refine mr_eqB (tgt := 17) C0 dX3_push_4 (by decide) (fun c1 => absurd c1 (by decide)) (fun _ => ?_)
  refine lv_iload_n hx hb dX3_push_7 rfl (lv_at hl 2 rfl) ?_
  refine lv_iconst (v := nI 1) hx hb dX3_push_8 (by decide) ?_
  refine lv_bipush (v := nI 99) hx hb dX3_push_9 (by decide) ?_
  refine mr_callS (As := [.int w0, .int (nI 1), .int (nI 99)]) C0 (ctX3_isWithin (I := I) (J := J) (v := w0) (lo := (nI 1)) (up := (nI 99)) ) (va_cwS 3 C0.1.2.2.2.2 gX3_push_X3_isWithin rfl rfl rfl (by decide +kernel) (by rw [hR]; exact ⟨Nat.le_of_ble_eq_true rfl, Nat.le_of_ble_eq_true rfl⟩)) hM hS rfl rfl rfl hl.1 (Nat.le_of_ble_eq_true rfl) dX3_push_11 (by rw [hR]; exact ⟨Nat.zero_le _, Nat.zero_le _⟩) (fun H locs hM hS => ?_)
  refine mr_neB (tgt := 19) C0 dX3_push_14 (by decide) (fun c2 => ?_) (fun c2 => absurd c2 (by rw [hw0]; decide))
  refine lv_aload_n hx hb dX3_push_19 rfl (lv_at hl 0 rfl) ?_
  refine mr_getr (r := p) (TT := TX3) (N := 7) C0 uX3_push_X3 hM hX.1.1 hX.1.2 rfl 0 (by decide) rfl kX3_push_f10 rfl dX3_push_20 ?_
  refine lv_iload_n hx hb dX3_push_23 rfl (lv_at hl 1 rfl) ?_
  refine mr_callV (As := [.int (nI s0)]) C0 (ctX2_isOpen (I := I) (J := J) (q := p) (s0 := (nI s0)) hX.2.1) (cwV 1 C0.1.2.2.2.2 gX3_push_X2_isOpen rfl rfl rfl (by decide +kernel) (by rw [hR]; exact ⟨Nat.le_of_ble_eq_true rfl, Nat.le_of_ble_eq_true rfl⟩)) hM hX.2.1.1.1 hX.2.1.1.2 rfl rfl hM hS rfl rfl rfl hl.1 (Nat.le_of_ble_eq_true rfl) dX3_push_24 (by rw [hR]; exact ⟨Nat.zero_le _, Nat.zero_le _⟩) (fun H locs hM hS => ?_)
  refine mr_neB (tgt := 33) C0 dX3_push_27 (by decide) (fun c3 => ?_) (fun c3 => absurd c3 (by rw [ho]; decide))
  refine lv_aload_n hx hb dX3_push_33 rfl (lv_at hl 0 rfl) ?_
  refine mr_getr (r := p) (TT := TX3) (N := 7) C0 uX3_push_X3 hM hX.1.1 hX.1.2 rfl 0 (by decide) rfl kX3_push_f10 rfl dX3_push_34 ?_
  refine mr_getr (r := p + 3) (TT := TX2) (N := 10) C0 uX3_push_X2 hM hX.2.1.1.1 hX.2.1.1.2 rfl 3 (by decide) rfl kX3_push_f65 rfl dX3_push_37 ?_
  refine lv_iload_n hx hb dX3_push_40 rfl (lv_at hl 1 rfl) ?_
  refine mr_aald (t := 0) (C := RX0) (r := p + 4 + 5 * s0) C0 hM hX.2.1.2.2.2.1.1 hX.2.1.2.2.2.1.2 rfl (by decide) (by omega) rfl dX3_push_41 ?_
  have hw4 := hW.1 s0 (by omega)
  have hw4b := hw4.2
  refine mr_callV (As := []) C0 (ctX0_isFull (I := I) (J := J) (a := (p + 4 + 5 * s0)) (hX.2.1.2.2.2.2.1 _ (by omega)) hw4.1 (by omega) (by omega)) (cwV 0 C0.1.2.2.2.2 gX3_push_X0_isFull rfl rfl rfl (by decide +kernel) (by rw [hR]; exact ⟨Nat.le_of_ble_eq_true rfl, Nat.le_of_ble_eq_true rfl⟩)) hM (hX.2.1.2.2.2.2.1 _ (by omega)).1.1 (hX.2.1.2.2.2.2.1 _ (by omega)).1.2 rfl rfl hM hS rfl rfl rfl hl.1 (Nat.le_of_ble_eq_true rfl) dX3_push_42 (by rw [hR]; exact ⟨Nat.zero_le _, Nat.zero_le _⟩) (fun H locs hM hS => ?_)
  refine mr_eqB (tgt := 51) C0 dX3_push_45 (by decide) (fun c5 => absurd (isFull_f c5) (by omega)) (fun c5 => ?_)
  refine lv_bipush (v := (-3)) hx hb dX3_push_48 (by decide) ?_
  skip
  exact mr_iret (v := (-3)) C0 hr hlk hQ hS rfl hM (Nat.le_refl _) (Nat.le_refl _) dX3_push_50
def fX3_push_t (I : hm_I) (x p n : Nat) (hs c : Nat → Nat) (ec lc : Nat) (s0 : Nat) (w0 : Int32) : Int32 × hm_I :=
  ((fX2_takeFrame_t (recI I x p n hs c ec lc) p c ec s0 w0).1, (fX2_takeFrame_t (recI I x p n hs c ec lc) p c ec s0 w0).2)
set_option maxHeartbeats 4000000 in
set_option maxRecDepth 100000 in
theorem ctX3_push_t {l : Launch} {D : va_G} {T : Nat → ClassId} {L : List Nat} {A : Nat → Prop} {Sh : hm_S} {I : hm_I} {J : hm_J} {x p f h m k j : Nat} {hs im : Nat → Nat} (hX : IsX L Sh x p f h m k j hs im) (hA : ApX x p f h m k j hs im) {c : Nat → Nat} {e : Nat → Nat → Nat} {ec lc : Nat} (hW : WfS I p c e ec lc) {n : Nat} (hn : I x 3 = nI n) (hn8 : n ≤ 8) {s0 : Nat} (hs0 : s0 < 8) {w0 : Int32} (hw0 : fX3_isWithin w0 (nI 1) (nI 99) = true) (ho : fX2_isOpen I p (nI s0) = true) (hc0 : c s0 < 6) :
    Ct l yX3_push wsX3_push { frames := 4, cells := 0, slots := 0, locals := 85 } 0 0 D T A [.ref x, .int (nI s0), .int w0] (hm D T L A Sh I J) (some (.int ((fX3_push_t I x p n hs c ec lc s0 w0).1))) (hm D T L A (recSh Sh h hs n) ((fX3_push_t I x p n hs c ec lc s0 w0).2) J) := by
  refine Ct.ofW (cc := cX3_push) (maxL := 3) (ret := (some .int)) (by decide) rfl (Nat.le_of_ble_eq_true rfl) ?_
  intro p_ e_ s_ m_ args_ below_ meth_ c_ ls R Qq hR hQ C0 hr hlk hname hM hl
  have hx := C0.1.1
  have hb := C0.1.2.1
  have hS : va_S A s_.heap s_.heap [] := va_S.rf
  have hl : lv_has ls 3 [(0, .ref x), (1, .int (nI s0)), (2, .int w0)] := hl
  have hec10 := hW.2.2.2.2.1
  have hec1 := hW.2.2.2.1
  refine lv_iload_n hx hb dX3_push_0 rfl (lv_at hl 1 rfl) ?_
  refine mr_callS (As := [.int (nI s0)]) C0 (ctX3_isStream_t (I := I) (J := J) (s0 := s0) (by omega)) (va_cwS 1 C0.1.2.2.2.2 gX3_push_X3_isStream rfl rfl rfl (by decide +kernel) (by rw [hR]; exact ⟨Nat.le_of_ble_eq_true rfl, Nat.le_of_ble_eq_true rfl⟩)) hM hS rfl rfl rfl hl.1 (Nat.le_of_ble_eq_true rfl) dX3_push_1 (by rw [hR]; exact ⟨Nat.zero_le _, Nat.zero_le _⟩) (fun H locs hM hS => ?_)
  refine mr_eqB (tgt := 17) C0 dX3_push_4 (by decide) (fun c1 => absurd c1 (by decide)) (fun _ => ?_)
  refine lv_iload_n hx hb dX3_push_7 rfl (lv_at hl 2 rfl) ?_
  refine lv_iconst (v := nI 1) hx hb dX3_push_8 (by decide) ?_
  refine lv_bipush (v := nI 99) hx hb dX3_push_9 (by decide) ?_
  refine mr_callS (As := [.int w0, .int (nI 1), .int (nI 99)]) C0 (ctX3_isWithin (I := I) (J := J) (v := w0) (lo := (nI 1)) (up := (nI 99)) ) (va_cwS 3 C0.1.2.2.2.2 gX3_push_X3_isWithin rfl rfl rfl (by decide +kernel) (by rw [hR]; exact ⟨Nat.le_of_ble_eq_true rfl, Nat.le_of_ble_eq_true rfl⟩)) hM hS rfl rfl rfl hl.1 (Nat.le_of_ble_eq_true rfl) dX3_push_11 (by rw [hR]; exact ⟨Nat.zero_le _, Nat.zero_le _⟩) (fun H locs hM hS => ?_)
  refine mr_neB (tgt := 19) C0 dX3_push_14 (by decide) (fun c2 => ?_) (fun c2 => absurd c2 (by rw [hw0]; decide))
  refine lv_aload_n hx hb dX3_push_19 rfl (lv_at hl 0 rfl) ?_
  refine mr_getr (r := p) (TT := TX3) (N := 7) C0 uX3_push_X3 hM hX.1.1 hX.1.2 rfl 0 (by decide) rfl kX3_push_f10 rfl dX3_push_20 ?_
  refine lv_iload_n hx hb dX3_push_23 rfl (lv_at hl 1 rfl) ?_
  refine mr_callV (As := [.int (nI s0)]) C0 (ctX2_isOpen (I := I) (J := J) (q := p) (s0 := (nI s0)) hX.2.1) (cwV 1 C0.1.2.2.2.2 gX3_push_X2_isOpen rfl rfl rfl (by decide +kernel) (by rw [hR]; exact ⟨Nat.le_of_ble_eq_true rfl, Nat.le_of_ble_eq_true rfl⟩)) hM hX.2.1.1.1 hX.2.1.1.2 rfl rfl hM hS rfl rfl rfl hl.1 (Nat.le_of_ble_eq_true rfl) dX3_push_24 (by rw [hR]; exact ⟨Nat.zero_le _, Nat.zero_le _⟩) (fun H locs hM hS => ?_)
  refine mr_neB (tgt := 33) C0 dX3_push_27 (by decide) (fun c3 => ?_) (fun c3 => absurd c3 (by rw [ho]; decide))
  refine lv_aload_n hx hb dX3_push_33 rfl (lv_at hl 0 rfl) ?_
  refine mr_getr (r := p) (TT := TX3) (N := 7) C0 uX3_push_X3 hM hX.1.1 hX.1.2 rfl 0 (by decide) rfl kX3_push_f10 rfl dX3_push_34 ?_
  refine mr_getr (r := p + 3) (TT := TX2) (N := 10) C0 uX3_push_X2 hM hX.2.1.1.1 hX.2.1.1.2 rfl 3 (by decide) rfl kX3_push_f65 rfl dX3_push_37 ?_
  refine lv_iload_n hx hb dX3_push_40 rfl (lv_at hl 1 rfl) ?_
  refine mr_aald (t := 0) (C := RX0) (r := p + 4 + 5 * s0) C0 hM hX.2.1.2.2.2.1.1 hX.2.1.2.2.2.1.2 rfl (by decide) (by omega) rfl dX3_push_41 ?_
  have hw4 := hW.1 s0 (by omega)
  have hw4b := hw4.2
  refine mr_callV (As := []) C0 (ctX0_isFull (I := I) (J := J) (a := (p + 4 + 5 * s0)) (hX.2.1.2.2.2.2.1 _ (by omega)) hw4.1 (by omega) (by omega)) (cwV 0 C0.1.2.2.2.2 gX3_push_X0_isFull rfl rfl rfl (by decide +kernel) (by rw [hR]; exact ⟨Nat.le_of_ble_eq_true rfl, Nat.le_of_ble_eq_true rfl⟩)) hM (hX.2.1.2.2.2.2.1 _ (by omega)).1.1 (hX.2.1.2.2.2.2.1 _ (by omega)).1.2 rfl rfl hM hS rfl rfl rfl hl.1 (Nat.le_of_ble_eq_true rfl) dX3_push_42 (by rw [hR]; exact ⟨Nat.zero_le _, Nat.zero_le _⟩) (fun H locs hM hS => ?_)
  refine mr_eqB (tgt := 51) C0 dX3_push_45 (by decide) (fun c5 => ?_) (fun c5 => absurd (isFull_t c5) (by omega))
  refine lv_aload_n hx hb dX3_push_51 rfl (lv_at hl 0 rfl) ?_
  refine mr_callV (As := []) C0 (ctX3_record (I := I) (J := J) hX hA hW hn (by omega)) (cwV 0 C0.1.2.2.2.2 gX3_push_X3_record rfl rfl rfl (by decide +kernel) (by rw [hR]; exact ⟨Nat.le_of_ble_eq_true rfl, Nat.le_of_ble_eq_true rfl⟩)) hM hX.1.1 hX.1.2 rfl rfl hM hS rfl rfl rfl hl.1 (Nat.le_of_ble_eq_true rfl) dX3_push_52 (by rw [hR]; exact ⟨Nat.zero_le _, Nat.zero_le _⟩) (fun H locs hM hS => ?_)
  have hX2 := IsX_rec (n := n) hX hA
  refine lv_aload_n hx hb dX3_push_55 rfl (lv_at hl 0 rfl) ?_
  refine mr_getr (r := p) (TT := TX3) (N := 7) C0 uX3_push_X3 hM hX2.1.1 hX2.1.2 rfl 0 (by decide) rfl kX3_push_f10 rfl dX3_push_56 ?_
  refine lv_iload_n hx hb dX3_push_59 rfl (lv_at hl 1 rfl) ?_
  refine lv_iload_n hx hb dX3_push_60 rfl (lv_at hl 2 rfl) ?_
  refine mr_callV (As := [.int (nI s0), .int w0]) C0 (ctX2_takeFrame_t (I := (recI I x p n hs c ec lc)) (J := J) (q := p) (s0 := s0) (z := w0) hX2.2.1 (WfS_rec (n := n) hA hW) (by omega) (by omega)) (cwV 2 C0.1.2.2.2.2 gX3_push_X2_takeFrame rfl rfl rfl (by decide +kernel) (by rw [hR]; exact ⟨Nat.le_of_ble_eq_true rfl, Nat.le_of_ble_eq_true rfl⟩)) hM hX2.2.1.1.1 hX2.2.1.1.2 rfl rfl hM hS rfl rfl rfl hl.1 (Nat.le_of_ble_eq_true rfl) dX3_push_61 (by rw [hR]; exact ⟨Nat.zero_le _, Nat.zero_le _⟩) (fun H locs hM hS => ?_)
  have eF : ((fX2_takeFrame_t (recI I x p n hs c ec lc) p c ec s0 w0).1, (fX2_takeFrame_t (recI I x p n hs c ec lc) p c ec s0 w0).2) = fX3_push_t I x p n hs c ec lc s0 w0 := rfl
  exact mr_iret (v := (fX2_takeFrame_t (recI I x p n hs c ec lc) p c ec s0 w0).1) C0 hr hlk hQ hS (by rw [← eF]) (by rw [← eF]; exact hM) (Nat.le_refl _) (Nat.le_refl _) dX3_push_64
set_option maxHeartbeats 4000000 in
set_option maxRecDepth 100000 in
theorem ctX3_edge_b {l : Launch} {D : va_G} {T : Nat → ClassId} {L : List Nat} {A : Nat → Prop} {Sh : hm_S} {I : hm_I} {J : hm_J} {x p f h m k j : Nat} {hs im : Nat → Nat} (hX : IsX L Sh x p f h m k j hs im) {a0 b0 w0 : Int32} (hb0 : (fX3_areTwoStreams a0 b0 && fX3_isWithin w0 (nI 0) (nI 1)) = false) :
    Ct l yX3_edge wsX3_edge { frames := 2, cells := 0, slots := 0, locals := 41 } 0 0 D T A [.ref x, .int a0, .int b0, .int w0] (hm D T L A Sh I J) (some (.int (-1))) (hm D T L A Sh I J) := by
  refine Ct.ofW (cc := cX3_edge) (maxL := 5) (ret := (some .int)) (by decide) rfl (Nat.le_of_ble_eq_true rfl) ?_
  intro p_ e_ s_ m_ args_ below_ meth_ c_ ls R Qq hR hQ C0 hr hlk hname hM hl
  have hx := C0.1.1
  have hb := C0.1.2.1
  have hS : va_S A s_.heap s_.heap [] := va_S.rf
  have hl : lv_has ls 5 [(0, .ref x), (1, .int a0), (2, .int b0), (3, .int w0)] := hl
  refine lv_iload_n hx hb dX3_edge_0 rfl (lv_at hl 1 rfl) ?_
  refine lv_iload_n hx hb dX3_edge_1 rfl (lv_at hl 2 rfl) ?_
  refine mr_callS (As := [.int a0, .int b0]) C0 (ctX3_areTwoStreams (I := I) (J := J) (a0 := a0) (b0 := b0) ) (va_cwS 2 C0.1.2.2.2.2 gX3_edge_X3_areTwoStreams rfl rfl rfl (by decide +kernel) (by rw [hR]; exact ⟨Nat.le_of_ble_eq_true rfl, Nat.le_of_ble_eq_true rfl⟩)) hM hS rfl rfl rfl hl.1 (Nat.le_of_ble_eq_true rfl) dX3_edge_2 (by rw [hR]; exact ⟨Nat.zero_le _, Nat.zero_le _⟩) (fun H locs hM hS => ?_)
  refine mr_eqB (tgt := 17) C0 dX3_edge_5 (by decide) (fun c1 => ?_) (fun c1 => ?_)
  · skip
    refine lv_iconst (v := (-1)) hx hb dX3_edge_17 (by decide) ?_
    skip
    exact mr_iret (v := (-1)) C0 hr hlk hQ hS rfl hM (Nat.le_refl _) (Nat.le_refl _) dX3_edge_18
  · skip
    refine lv_iload_n hx hb dX3_edge_8 rfl (lv_at hl 3 rfl) ?_
    refine lv_iconst (v := nI 0) hx hb dX3_edge_9 (by decide) ?_
    refine lv_iconst (v := nI 1) hx hb dX3_edge_10 (by decide) ?_
    refine mr_callS (As := [.int w0, .int (nI 0), .int (nI 1)]) C0 (ctX3_isWithin (I := I) (J := J) (v := w0) (lo := (nI 0)) (up := (nI 1)) ) (va_cwS 3 C0.1.2.2.2.2 gX3_edge_X3_isWithin rfl rfl rfl (by decide +kernel) (by rw [hR]; exact ⟨Nat.le_of_ble_eq_true rfl, Nat.le_of_ble_eq_true rfl⟩)) hM hS rfl rfl rfl hl.1 (Nat.le_of_ble_eq_true rfl) dX3_edge_11 (by rw [hR]; exact ⟨Nat.zero_le _, Nat.zero_le _⟩) (fun H locs hM hS => ?_)
    refine mr_neB (tgt := 19) C0 dX3_edge_14 (by decide) (fun c2 => absurd hb0 (by rw [c1, c2]; decide)) (fun c2 => ?_)
    refine lv_iconst (v := (-1)) hx hb dX3_edge_17 (by decide) ?_
    skip
    exact mr_iret (v := (-1)) C0 hr hlk hQ hS rfl hM (Nat.le_refl _) (Nat.le_refl _) dX3_edge_18
set_option maxHeartbeats 4000000 in
set_option maxRecDepth 100000 in
theorem ctX3_edge_c {l : Launch} {D : va_G} {T : Nat → ClassId} {L : List Nat} {A : Nat → Prop} {Sh : hm_S} {I : hm_I} {J : hm_J} {x p f h m k j : Nat} {hs im : Nat → Nat} (hX : IsX L Sh x p f h m k j hs im) (hA : ApX x p f h m k j hs im) {c : Nat → Nat} {e : Nat → Nat → Nat} {ec lc : Nat} (hW : WfS I p c e ec lc) {n : Nat} (hn : I x 3 = nI n) (hn8 : n ≤ 8) {a0 b0 : Nat} (ha0 : a0 < 8) (hb0 : b0 < 8) (hab : a0 ≠ b0) (hp : fX1_precedes_t I (p + 44) b0 a0 = true) :
    Ct l yX3_edge wsX3_edge { frames := 2, cells := 0, slots := 0, locals := 43 } 0 0 D T A [.ref x, .int (nI a0), .int (nI b0), .int (nI 1)] (hm D T L A Sh I J) (some (.int (-4))) (hm D T L A Sh I J) := by
  refine Ct.ofW (cc := cX3_edge) (maxL := 5) (ret := (some .int)) (by decide) rfl (Nat.le_of_ble_eq_true rfl) ?_
  intro p_ e_ s_ m_ args_ below_ meth_ c_ ls R Qq hR hQ C0 hr hlk hname hM hl
  have hx := C0.1.1
  have hb := C0.1.2.1
  have hS : va_S A s_.heap s_.heap [] := va_S.rf
  have hl : lv_has ls 5 [(0, .ref x), (1, .int (nI a0)), (2, .int (nI b0)), (3, .int (nI 1))] := hl
  have hec10 := hW.2.2.2.2.1
  have hec1 := hW.2.2.2.1
  refine lv_iload_n hx hb dX3_edge_0 rfl (lv_at hl 1 rfl) ?_
  refine lv_iload_n hx hb dX3_edge_1 rfl (lv_at hl 2 rfl) ?_
  refine mr_callS (As := [.int (nI a0), .int (nI b0)]) C0 (ctX3_areTwoStreams_t (I := I) (J := J) (a0 := a0) (b0 := b0) (by omega) (by omega) (by omega)) (va_cwS 2 C0.1.2.2.2.2 gX3_edge_X3_areTwoStreams rfl rfl rfl (by decide +kernel) (by rw [hR]; exact ⟨Nat.le_of_ble_eq_true rfl, Nat.le_of_ble_eq_true rfl⟩)) hM hS rfl rfl rfl hl.1 (Nat.le_of_ble_eq_true rfl) dX3_edge_2 (by rw [hR]; exact ⟨Nat.zero_le _, Nat.zero_le _⟩) (fun H locs hM hS => ?_)
  refine mr_eqB (tgt := 17) C0 dX3_edge_5 (by decide) (fun c1 => absurd c1 (by decide)) (fun _ => ?_)
  refine lv_iload_n hx hb dX3_edge_8 rfl (lv_at hl 3 rfl) ?_
  refine lv_iconst (v := nI 0) hx hb dX3_edge_9 (by decide) ?_
  refine lv_iconst (v := nI 1) hx hb dX3_edge_10 (by decide) ?_
  refine mr_callS (As := [.int (nI 1), .int (nI 0), .int (nI 1)]) C0 (ctX3_isWithin (I := I) (J := J) (v := (nI 1)) (lo := (nI 0)) (up := (nI 1)) ) (va_cwS 3 C0.1.2.2.2.2 gX3_edge_X3_isWithin rfl rfl rfl (by decide +kernel) (by rw [hR]; exact ⟨Nat.le_of_ble_eq_true rfl, Nat.le_of_ble_eq_true rfl⟩)) hM hS rfl rfl rfl hl.1 (Nat.le_of_ble_eq_true rfl) dX3_edge_11 (by rw [hR]; exact ⟨Nat.zero_le _, Nat.zero_le _⟩) (fun H locs hM hS => ?_)
  refine mr_neB (tgt := 19) C0 dX3_edge_14 (by decide) (fun c2 => ?_) (fun c2 => absurd c2 (by decide))
  refine lv_iload_n hx hb dX3_edge_19 rfl (lv_at hl 3 rfl) ?_
  refine lv_iconst (v := nI 1) hx hb dX3_edge_20 (by decide) ?_
  refine mr_neN (x := 1) (y := 1) (tgt := 42) C0 dX3_edge_21 (by decide) (by decide) (by decide) (fun c3 => absurd c3 (by decide)) (fun _ => ?_)
  refine lv_aload_n hx hb dX3_edge_24 rfl (lv_at hl 0 rfl) ?_
  refine mr_getr (r := p) (TT := TX3) (N := 7) C0 uX3_edge_X3 hM hX.1.1 hX.1.2 rfl 0 (by decide) rfl kX3_edge_f10 rfl dX3_edge_25 ?_
  refine mr_getr (r := p + 44) (TT := TX2) (N := 10) C0 uX3_edge_X2 hM hX.2.1.1.1 hX.2.1.1.2 rfl 4 (by decide) rfl kX3_edge_f97 rfl dX3_edge_28 ?_
  refine lv_iload_n hx hb dX3_edge_31 rfl (lv_at hl 2 rfl) ?_
  refine lv_iload_n hx hb dX3_edge_32 rfl (lv_at hl 1 rfl) ?_
  refine mr_callV (As := [.int (nI b0), .int (nI a0)]) C0 (ctX1_precedes_t (I := I) (J := J) (a := (p + 44)) (x := b0) (y := a0) hX.2.1.2.2.2.2.2.1 (by omega)) (cwV 2 C0.1.2.2.2.2 gX3_edge_X1_precedes rfl rfl rfl (by decide +kernel) (by rw [hR]; exact ⟨Nat.le_of_ble_eq_true rfl, Nat.le_of_ble_eq_true rfl⟩)) hM hX.2.1.2.2.2.2.2.1.1.1 hX.2.1.2.2.2.2.2.1.1.2 rfl rfl hM hS rfl rfl rfl hl.1 (Nat.le_of_ble_eq_true rfl) dX3_edge_33 (by rw [hR]; exact ⟨Nat.zero_le _, Nat.zero_le _⟩) (fun H locs hM hS => ?_)
  refine mr_eqB (tgt := 42) C0 dX3_edge_36 (by decide) (fun c4 => absurd c4 (by rw [hp]; decide)) (fun c4 => ?_)
  refine lv_bipush (v := (-4)) hx hb dX3_edge_39 (by decide) ?_
  skip
  exact mr_iret (v := (-4)) C0 hr hlk hQ hS rfl hM (Nat.le_refl _) (Nat.le_refl _) dX3_edge_41
def fX3_edge_t1 (I : hm_I) (x p n : Nat) (hs c : Nat → Nat) (ec lc : Nat) (a0 b0 : Nat) : Int32 × hm_I :=
  if fX1_hasEdge_t (recI I x p n hs c ec lc) (p + 44) a0 b0 = true then (nI 1, fX1_putEdge_t (recI I x p n hs c ec lc) (p + 44) a0 b0 true) else (nI 0, fX1_putEdge_t (recI I x p n hs c ec lc) (p + 44) a0 b0 true)
set_option maxHeartbeats 4000000 in
set_option maxRecDepth 100000 in
theorem ctX3_edge_t1 {l : Launch} {D : va_G} {T : Nat → ClassId} {L : List Nat} {A : Nat → Prop} {Sh : hm_S} {I : hm_I} {J : hm_J} {x p f h m k j : Nat} {hs im : Nat → Nat} (hX : IsX L Sh x p f h m k j hs im) (hA : ApX x p f h m k j hs im) {c : Nat → Nat} {e : Nat → Nat → Nat} {ec lc : Nat} (hW : WfS I p c e ec lc) {n : Nat} (hn : I x 3 = nI n) (hn8 : n ≤ 8) {a0 b0 : Nat} (ha0 : a0 < 8) (hb0 : b0 < 8) (hab : a0 ≠ b0) (hp : fX1_precedes_t I (p + 44) b0 a0 = false) :
    Ct l yX3_edge wsX3_edge { frames := 4, cells := 0, slots := 0, locals := 85 } 0 0 D T A [.ref x, .int (nI a0), .int (nI b0), .int (nI 1)] (hm D T L A Sh I J) (some (.int ((fX3_edge_t1 I x p n hs c ec lc a0 b0).1))) (hm D T L A (recSh Sh h hs n) ((fX3_edge_t1 I x p n hs c ec lc a0 b0).2) J) := by
  refine Ct.ofW (cc := cX3_edge) (maxL := 5) (ret := (some .int)) (by decide) rfl (Nat.le_of_ble_eq_true rfl) ?_
  intro p_ e_ s_ m_ args_ below_ meth_ c_ ls R Qq hR hQ C0 hr hlk hname hM hl
  have hx := C0.1.1
  have hb := C0.1.2.1
  have hS : va_S A s_.heap s_.heap [] := va_S.rf
  have hl : lv_has ls 5 [(0, .ref x), (1, .int (nI a0)), (2, .int (nI b0)), (3, .int (nI 1))] := hl
  have hec10 := hW.2.2.2.2.1
  have hec1 := hW.2.2.2.1
  refine lv_iload_n hx hb dX3_edge_0 rfl (lv_at hl 1 rfl) ?_
  refine lv_iload_n hx hb dX3_edge_1 rfl (lv_at hl 2 rfl) ?_
  refine mr_callS (As := [.int (nI a0), .int (nI b0)]) C0 (ctX3_areTwoStreams_t (I := I) (J := J) (a0 := a0) (b0 := b0) (by omega) (by omega) (by omega)) (va_cwS 2 C0.1.2.2.2.2 gX3_edge_X3_areTwoStreams rfl rfl rfl (by decide +kernel) (by rw [hR]; exact ⟨Nat.le_of_ble_eq_true rfl, Nat.le_of_ble_eq_true rfl⟩)) hM hS rfl rfl rfl hl.1 (Nat.le_of_ble_eq_true rfl) dX3_edge_2 (by rw [hR]; exact ⟨Nat.zero_le _, Nat.zero_le _⟩) (fun H locs hM hS => ?_)
  refine mr_eqB (tgt := 17) C0 dX3_edge_5 (by decide) (fun c1 => absurd c1 (by decide)) (fun _ => ?_)
  refine lv_iload_n hx hb dX3_edge_8 rfl (lv_at hl 3 rfl) ?_
  refine lv_iconst (v := nI 0) hx hb dX3_edge_9 (by decide) ?_
  refine lv_iconst (v := nI 1) hx hb dX3_edge_10 (by decide) ?_
  refine mr_callS (As := [.int (nI 1), .int (nI 0), .int (nI 1)]) C0 (ctX3_isWithin (I := I) (J := J) (v := (nI 1)) (lo := (nI 0)) (up := (nI 1)) ) (va_cwS 3 C0.1.2.2.2.2 gX3_edge_X3_isWithin rfl rfl rfl (by decide +kernel) (by rw [hR]; exact ⟨Nat.le_of_ble_eq_true rfl, Nat.le_of_ble_eq_true rfl⟩)) hM hS rfl rfl rfl hl.1 (Nat.le_of_ble_eq_true rfl) dX3_edge_11 (by rw [hR]; exact ⟨Nat.zero_le _, Nat.zero_le _⟩) (fun H locs hM hS => ?_)
  refine mr_neB (tgt := 19) C0 dX3_edge_14 (by decide) (fun c2 => ?_) (fun c2 => absurd c2 (by decide))
  refine lv_iload_n hx hb dX3_edge_19 rfl (lv_at hl 3 rfl) ?_
  refine lv_iconst (v := nI 1) hx hb dX3_edge_20 (by decide) ?_
  refine mr_neN (x := 1) (y := 1) (tgt := 42) C0 dX3_edge_21 (by decide) (by decide) (by decide) (fun c3 => absurd c3 (by decide)) (fun _ => ?_)
  refine lv_aload_n hx hb dX3_edge_24 rfl (lv_at hl 0 rfl) ?_
  refine mr_getr (r := p) (TT := TX3) (N := 7) C0 uX3_edge_X3 hM hX.1.1 hX.1.2 rfl 0 (by decide) rfl kX3_edge_f10 rfl dX3_edge_25 ?_
  refine mr_getr (r := p + 44) (TT := TX2) (N := 10) C0 uX3_edge_X2 hM hX.2.1.1.1 hX.2.1.1.2 rfl 4 (by decide) rfl kX3_edge_f97 rfl dX3_edge_28 ?_
  refine lv_iload_n hx hb dX3_edge_31 rfl (lv_at hl 2 rfl) ?_
  refine lv_iload_n hx hb dX3_edge_32 rfl (lv_at hl 1 rfl) ?_
  refine mr_callV (As := [.int (nI b0), .int (nI a0)]) C0 (ctX1_precedes_t (I := I) (J := J) (a := (p + 44)) (x := b0) (y := a0) hX.2.1.2.2.2.2.2.1 (by omega)) (cwV 2 C0.1.2.2.2.2 gX3_edge_X1_precedes rfl rfl rfl (by decide +kernel) (by rw [hR]; exact ⟨Nat.le_of_ble_eq_true rfl, Nat.le_of_ble_eq_true rfl⟩)) hM hX.2.1.2.2.2.2.2.1.1.1 hX.2.1.2.2.2.2.2.1.1.2 rfl rfl hM hS rfl rfl rfl hl.1 (Nat.le_of_ble_eq_true rfl) dX3_edge_33 (by rw [hR]; exact ⟨Nat.zero_le _, Nat.zero_le _⟩) (fun H locs hM hS => ?_)
  refine mr_eqB (tgt := 42) C0 dX3_edge_36 (by decide) (fun c4 => ?_) (fun c4 => absurd c4 (by rw [hp]; decide))
  refine lv_aload_n hx hb dX3_edge_42 rfl (lv_at hl 0 rfl) ?_
  refine mr_callV (As := []) C0 (ctX3_record (I := I) (J := J) hX hA hW hn (by omega)) (cwV 0 C0.1.2.2.2.2 gX3_edge_X3_record rfl rfl rfl (by decide +kernel) (by rw [hR]; exact ⟨Nat.le_of_ble_eq_true rfl, Nat.le_of_ble_eq_true rfl⟩)) hM hX.1.1 hX.1.2 rfl rfl hM hS rfl rfl rfl hl.1 (Nat.le_of_ble_eq_true rfl) dX3_edge_43 (by rw [hR]; exact ⟨Nat.zero_le _, Nat.zero_le _⟩) (fun H locs hM hS => ?_)
  have hX2 := IsX_rec (n := n) hX hA
  refine lv_aload_n hx hb dX3_edge_46 rfl (lv_at hl 0 rfl) ?_
  refine mr_getr (r := p) (TT := TX3) (N := 7) C0 uX3_edge_X3 hM hX2.1.1 hX2.1.2 rfl 0 (by decide) rfl kX3_edge_f10 rfl dX3_edge_47 ?_
  refine mr_getr (r := p + 44) (TT := TX2) (N := 10) C0 uX3_edge_X2 hM hX2.2.1.1.1 hX2.2.1.1.2 rfl 4 (by decide) rfl kX3_edge_f97 rfl dX3_edge_50 ?_
  refine lv_iload_n hx hb dX3_edge_53 rfl (lv_at hl 1 rfl) ?_
  refine lv_iload_n hx hb dX3_edge_54 rfl (lv_at hl 2 rfl) ?_
  refine mr_callV (As := [.int (nI a0), .int (nI b0)]) C0 (ctX1_hasEdge_t (I := (recI I x p n hs c ec lc)) (J := J) (a := (p + 44)) (x := a0) (y := b0) hX2.2.1.2.2.2.2.2.1 (by omega)) (cwV 2 C0.1.2.2.2.2 gX3_edge_X1_hasEdge rfl rfl rfl (by decide +kernel) (by rw [hR]; exact ⟨Nat.le_of_ble_eq_true rfl, Nat.le_of_ble_eq_true rfl⟩)) hM hX2.2.1.2.2.2.2.2.1.1.1 hX2.2.1.2.2.2.2.2.1.1.2 rfl rfl hM hS rfl rfl rfl hl.1 (Nat.le_of_ble_eq_true rfl) dX3_edge_55 (by rw [hR]; exact ⟨Nat.zero_le _, Nat.zero_le _⟩) (fun H locs hM hS => ?_)
  refine mr_eqB (tgt := 65) C0 dX3_edge_58 (by decide) (fun c5 => ?_) (fun c5 => ?_)
  · skip
    refine lv_iconst (v := nI 0) hx hb dX3_edge_65 (by decide) ?_
    refine lv_istore (lv' := [(4, .int (nI 0)), (0, .ref x), (1, .int (nI a0)), (2, .int (nI b0)), (3, .int (nI 1))]) hx hb dX3_edge_66 hl (by decide) rfl (fun ls hl => ?_)
    refine lv_aload_n hx hb dX3_edge_68 rfl (lv_at hl 1 rfl) ?_
    refine mr_getr (r := p) (TT := TX3) (N := 7) C0 uX3_edge_X3 hM hX2.1.1 hX2.1.2 rfl 0 (by decide) rfl kX3_edge_f10 rfl dX3_edge_69 ?_
    refine mr_getr (r := p + 44) (TT := TX2) (N := 10) C0 uX3_edge_X2 hM hX2.2.1.1.1 hX2.2.1.1.2 rfl 4 (by decide) rfl kX3_edge_f97 rfl dX3_edge_72 ?_
    refine lv_iload_n hx hb dX3_edge_75 rfl (lv_at hl 2 rfl) ?_
    refine lv_iload_n hx hb dX3_edge_76 rfl (lv_at hl 3 rfl) ?_
    refine lv_iload_n hx hb dX3_edge_77 rfl (lv_at hl 4 rfl) ?_
    refine lv_iconst (v := nI 1) hx hb dX3_edge_78 (by decide) ?_
    refine mr_neN (x := 1) (y := 1) (tgt := 86) C0 dX3_edge_79 (by decide) (by decide) (by decide) (fun c6 => absurd c6 (by decide)) (fun _ => ?_)
    refine lv_iconst (v := nI 1) hx hb dX3_edge_82 (by decide) ?_
    refine lv_goto (tgt := 87) hx hb dX3_edge_83 (by decide) ?_
    refine mr_callV (As := [.int (nI a0), .int (nI b0), .int (nI 1)]) C0 (ctX1_putEdge_t (I := (recI I x p n hs c ec lc)) (J := J) (a := (p + 44)) (x := a0) (y := b0) (on := true) hX2.2.1.2.2.2.2.2.1 (by omega) (by omega) (by omega)) (cwV 3 C0.1.2.2.2.2 gX3_edge_X1_putEdge rfl rfl rfl (by decide +kernel) (by rw [hR]; exact ⟨Nat.le_of_ble_eq_true rfl, Nat.le_of_ble_eq_true rfl⟩)) hM hX2.2.1.2.2.2.2.2.1.1.1 hX2.2.1.2.2.2.2.2.1.1.2 rfl rfl hM hS rfl rfl rfl hl.1 (Nat.le_of_ble_eq_true rfl) dX3_edge_87 (by rw [hR]; exact ⟨Nat.zero_le _, Nat.zero_le _⟩) (fun H locs hM hS => ?_)
    refine lv_iload hx hb dX3_edge_90 (lv_at hl 0 rfl) ?_
    have eF : (nI 0, fX1_putEdge_t (recI I x p n hs c ec lc) (p + 44) a0 b0 true) = fX3_edge_t1 I x p n hs c ec lc a0 b0 := by unfold fX3_edge_t1; rw [if_neg (Bool.eq_false_iff.mp c5)]
    exact mr_iret (v := nI 0) C0 hr hlk hQ hS (by rw [← eF]) (by rw [← eF]; exact hM) (Nat.le_refl _) (Nat.le_refl _) dX3_edge_92
  · skip
    refine lv_iconst (v := nI 1) hx hb dX3_edge_61 (by decide) ?_
    refine lv_goto (tgt := 66) hx hb dX3_edge_62 (by decide) ?_
    refine lv_istore (lv' := [(4, .int (nI 1)), (0, .ref x), (1, .int (nI a0)), (2, .int (nI b0)), (3, .int (nI 1))]) hx hb dX3_edge_66 hl (by decide) rfl (fun ls hl => ?_)
    refine lv_aload_n hx hb dX3_edge_68 rfl (lv_at hl 1 rfl) ?_
    refine mr_getr (r := p) (TT := TX3) (N := 7) C0 uX3_edge_X3 hM hX2.1.1 hX2.1.2 rfl 0 (by decide) rfl kX3_edge_f10 rfl dX3_edge_69 ?_
    refine mr_getr (r := p + 44) (TT := TX2) (N := 10) C0 uX3_edge_X2 hM hX2.2.1.1.1 hX2.2.1.1.2 rfl 4 (by decide) rfl kX3_edge_f97 rfl dX3_edge_72 ?_
    refine lv_iload_n hx hb dX3_edge_75 rfl (lv_at hl 2 rfl) ?_
    refine lv_iload_n hx hb dX3_edge_76 rfl (lv_at hl 3 rfl) ?_
    refine lv_iload_n hx hb dX3_edge_77 rfl (lv_at hl 4 rfl) ?_
    refine lv_iconst (v := nI 1) hx hb dX3_edge_78 (by decide) ?_
    refine mr_neN (x := 1) (y := 1) (tgt := 86) C0 dX3_edge_79 (by decide) (by decide) (by decide) (fun c7 => absurd c7 (by decide)) (fun _ => ?_)
    refine lv_iconst (v := nI 1) hx hb dX3_edge_82 (by decide) ?_
    refine lv_goto (tgt := 87) hx hb dX3_edge_83 (by decide) ?_
    refine mr_callV (As := [.int (nI a0), .int (nI b0), .int (nI 1)]) C0 (ctX1_putEdge_t (I := (recI I x p n hs c ec lc)) (J := J) (a := (p + 44)) (x := a0) (y := b0) (on := true) hX2.2.1.2.2.2.2.2.1 (by omega) (by omega) (by omega)) (cwV 3 C0.1.2.2.2.2 gX3_edge_X1_putEdge rfl rfl rfl (by decide +kernel) (by rw [hR]; exact ⟨Nat.le_of_ble_eq_true rfl, Nat.le_of_ble_eq_true rfl⟩)) hM hX2.2.1.2.2.2.2.2.1.1.1 hX2.2.1.2.2.2.2.2.1.1.2 rfl rfl hM hS rfl rfl rfl hl.1 (Nat.le_of_ble_eq_true rfl) dX3_edge_87 (by rw [hR]; exact ⟨Nat.zero_le _, Nat.zero_le _⟩) (fun H locs hM hS => ?_)
    refine lv_iload hx hb dX3_edge_90 (lv_at hl 0 rfl) ?_
    have eF : (nI 1, fX1_putEdge_t (recI I x p n hs c ec lc) (p + 44) a0 b0 true) = fX3_edge_t1 I x p n hs c ec lc a0 b0 := by unfold fX3_edge_t1; rw [if_pos c5]
    exact mr_iret (v := nI 1) C0 hr hlk hQ hS (by rw [← eF]) (by rw [← eF]; exact hM) (Nat.le_refl _) (Nat.le_refl _) dX3_edge_92
def fX3_edge_t0 (I : hm_I) (x p n : Nat) (hs c : Nat → Nat) (ec lc : Nat) (a0 b0 : Nat) : Int32 × hm_I :=
  if fX1_hasEdge_t (recI I x p n hs c ec lc) (p + 44) a0 b0 = true then (nI 1, fX1_putEdge_t (recI I x p n hs c ec lc) (p + 44) a0 b0 false) else (nI 0, fX1_putEdge_t (recI I x p n hs c ec lc) (p + 44) a0 b0 false)
set_option maxHeartbeats 4000000 in
set_option maxRecDepth 100000 in
theorem ctX3_edge_t0 {l : Launch} {D : va_G} {T : Nat → ClassId} {L : List Nat} {A : Nat → Prop} {Sh : hm_S} {I : hm_I} {J : hm_J} {x p f h m k j : Nat} {hs im : Nat → Nat} (hX : IsX L Sh x p f h m k j hs im) (hA : ApX x p f h m k j hs im) {c : Nat → Nat} {e : Nat → Nat → Nat} {ec lc : Nat} (hW : WfS I p c e ec lc) {n : Nat} (hn : I x 3 = nI n) (hn8 : n ≤ 8) {a0 b0 : Nat} (ha0 : a0 < 8) (hb0 : b0 < 8) (hab : a0 ≠ b0) :
    Ct l yX3_edge wsX3_edge { frames := 4, cells := 0, slots := 0, locals := 85 } 0 0 D T A [.ref x, .int (nI a0), .int (nI b0), .int (nI 0)] (hm D T L A Sh I J) (some (.int ((fX3_edge_t0 I x p n hs c ec lc a0 b0).1))) (hm D T L A (recSh Sh h hs n) ((fX3_edge_t0 I x p n hs c ec lc a0 b0).2) J) := by
  refine Ct.ofW (cc := cX3_edge) (maxL := 5) (ret := (some .int)) (by decide) rfl (Nat.le_of_ble_eq_true rfl) ?_
  intro p_ e_ s_ m_ args_ below_ meth_ c_ ls R Qq hR hQ C0 hr hlk hname hM hl
  have hx := C0.1.1
  have hb := C0.1.2.1
  have hS : va_S A s_.heap s_.heap [] := va_S.rf
  have hl : lv_has ls 5 [(0, .ref x), (1, .int (nI a0)), (2, .int (nI b0)), (3, .int (nI 0))] := hl
  have hec10 := hW.2.2.2.2.1
  have hec1 := hW.2.2.2.1
  refine lv_iload_n hx hb dX3_edge_0 rfl (lv_at hl 1 rfl) ?_
  refine lv_iload_n hx hb dX3_edge_1 rfl (lv_at hl 2 rfl) ?_
  refine mr_callS (As := [.int (nI a0), .int (nI b0)]) C0 (ctX3_areTwoStreams_t (I := I) (J := J) (a0 := a0) (b0 := b0) (by omega) (by omega) (by omega)) (va_cwS 2 C0.1.2.2.2.2 gX3_edge_X3_areTwoStreams rfl rfl rfl (by decide +kernel) (by rw [hR]; exact ⟨Nat.le_of_ble_eq_true rfl, Nat.le_of_ble_eq_true rfl⟩)) hM hS rfl rfl rfl hl.1 (Nat.le_of_ble_eq_true rfl) dX3_edge_2 (by rw [hR]; exact ⟨Nat.zero_le _, Nat.zero_le _⟩) (fun H locs hM hS => ?_)
  refine mr_eqB (tgt := 17) C0 dX3_edge_5 (by decide) (fun c1 => absurd c1 (by decide)) (fun _ => ?_)
  refine lv_iload_n hx hb dX3_edge_8 rfl (lv_at hl 3 rfl) ?_
  refine lv_iconst (v := nI 0) hx hb dX3_edge_9 (by decide) ?_
  refine lv_iconst (v := nI 1) hx hb dX3_edge_10 (by decide) ?_
  refine mr_callS (As := [.int (nI 0), .int (nI 0), .int (nI 1)]) C0 (ctX3_isWithin (I := I) (J := J) (v := (nI 0)) (lo := (nI 0)) (up := (nI 1)) ) (va_cwS 3 C0.1.2.2.2.2 gX3_edge_X3_isWithin rfl rfl rfl (by decide +kernel) (by rw [hR]; exact ⟨Nat.le_of_ble_eq_true rfl, Nat.le_of_ble_eq_true rfl⟩)) hM hS rfl rfl rfl hl.1 (Nat.le_of_ble_eq_true rfl) dX3_edge_11 (by rw [hR]; exact ⟨Nat.zero_le _, Nat.zero_le _⟩) (fun H locs hM hS => ?_)
  refine mr_neB (tgt := 19) C0 dX3_edge_14 (by decide) (fun c2 => ?_) (fun c2 => absurd c2 (by decide))
  refine lv_iload_n hx hb dX3_edge_19 rfl (lv_at hl 3 rfl) ?_
  refine lv_iconst (v := nI 1) hx hb dX3_edge_20 (by decide) ?_
  refine mr_neN (x := 0) (y := 1) (tgt := 42) C0 dX3_edge_21 (by decide) (by decide) (by decide) (fun _ => ?_) (fun c3 => absurd c3 (by decide))
  refine lv_aload_n hx hb dX3_edge_42 rfl (lv_at hl 0 rfl) ?_
  refine mr_callV (As := []) C0 (ctX3_record (I := I) (J := J) hX hA hW hn (by omega)) (cwV 0 C0.1.2.2.2.2 gX3_edge_X3_record rfl rfl rfl (by decide +kernel) (by rw [hR]; exact ⟨Nat.le_of_ble_eq_true rfl, Nat.le_of_ble_eq_true rfl⟩)) hM hX.1.1 hX.1.2 rfl rfl hM hS rfl rfl rfl hl.1 (Nat.le_of_ble_eq_true rfl) dX3_edge_43 (by rw [hR]; exact ⟨Nat.zero_le _, Nat.zero_le _⟩) (fun H locs hM hS => ?_)
  have hX2 := IsX_rec (n := n) hX hA
  refine lv_aload_n hx hb dX3_edge_46 rfl (lv_at hl 0 rfl) ?_
  refine mr_getr (r := p) (TT := TX3) (N := 7) C0 uX3_edge_X3 hM hX2.1.1 hX2.1.2 rfl 0 (by decide) rfl kX3_edge_f10 rfl dX3_edge_47 ?_
  refine mr_getr (r := p + 44) (TT := TX2) (N := 10) C0 uX3_edge_X2 hM hX2.2.1.1.1 hX2.2.1.1.2 rfl 4 (by decide) rfl kX3_edge_f97 rfl dX3_edge_50 ?_
  refine lv_iload_n hx hb dX3_edge_53 rfl (lv_at hl 1 rfl) ?_
  refine lv_iload_n hx hb dX3_edge_54 rfl (lv_at hl 2 rfl) ?_
  refine mr_callV (As := [.int (nI a0), .int (nI b0)]) C0 (ctX1_hasEdge_t (I := (recI I x p n hs c ec lc)) (J := J) (a := (p + 44)) (x := a0) (y := b0) hX2.2.1.2.2.2.2.2.1 (by omega)) (cwV 2 C0.1.2.2.2.2 gX3_edge_X1_hasEdge rfl rfl rfl (by decide +kernel) (by rw [hR]; exact ⟨Nat.le_of_ble_eq_true rfl, Nat.le_of_ble_eq_true rfl⟩)) hM hX2.2.1.2.2.2.2.2.1.1.1 hX2.2.1.2.2.2.2.2.1.1.2 rfl rfl hM hS rfl rfl rfl hl.1 (Nat.le_of_ble_eq_true rfl) dX3_edge_55 (by rw [hR]; exact ⟨Nat.zero_le _, Nat.zero_le _⟩) (fun H locs hM hS => ?_)
  refine mr_eqB (tgt := 65) C0 dX3_edge_58 (by decide) (fun c4 => ?_) (fun c4 => ?_)
  · skip
    refine lv_iconst (v := nI 0) hx hb dX3_edge_65 (by decide) ?_
    refine lv_istore (lv' := [(4, .int (nI 0)), (0, .ref x), (1, .int (nI a0)), (2, .int (nI b0)), (3, .int (nI 0))]) hx hb dX3_edge_66 hl (by decide) rfl (fun ls hl => ?_)
    refine lv_aload_n hx hb dX3_edge_68 rfl (lv_at hl 1 rfl) ?_
    refine mr_getr (r := p) (TT := TX3) (N := 7) C0 uX3_edge_X3 hM hX2.1.1 hX2.1.2 rfl 0 (by decide) rfl kX3_edge_f10 rfl dX3_edge_69 ?_
    refine mr_getr (r := p + 44) (TT := TX2) (N := 10) C0 uX3_edge_X2 hM hX2.2.1.1.1 hX2.2.1.1.2 rfl 4 (by decide) rfl kX3_edge_f97 rfl dX3_edge_72 ?_
    refine lv_iload_n hx hb dX3_edge_75 rfl (lv_at hl 2 rfl) ?_
    refine lv_iload_n hx hb dX3_edge_76 rfl (lv_at hl 3 rfl) ?_
    refine lv_iload_n hx hb dX3_edge_77 rfl (lv_at hl 4 rfl) ?_
    refine lv_iconst (v := nI 1) hx hb dX3_edge_78 (by decide) ?_
    refine mr_neN (x := 0) (y := 1) (tgt := 86) C0 dX3_edge_79 (by decide) (by decide) (by decide) (fun _ => ?_) (fun c5 => absurd c5 (by decide))
    refine lv_iconst (v := nI 0) hx hb dX3_edge_86 (by decide) ?_
    refine mr_callV (As := [.int (nI a0), .int (nI b0), .int (nI 0)]) C0 (ctX1_putEdge_t (I := (recI I x p n hs c ec lc)) (J := J) (a := (p + 44)) (x := a0) (y := b0) (on := false) hX2.2.1.2.2.2.2.2.1 (by omega) (by omega) (by omega)) (cwV 3 C0.1.2.2.2.2 gX3_edge_X1_putEdge rfl rfl rfl (by decide +kernel) (by rw [hR]; exact ⟨Nat.le_of_ble_eq_true rfl, Nat.le_of_ble_eq_true rfl⟩)) hM hX2.2.1.2.2.2.2.2.1.1.1 hX2.2.1.2.2.2.2.2.1.1.2 rfl rfl hM hS rfl rfl rfl hl.1 (Nat.le_of_ble_eq_true rfl) dX3_edge_87 (by rw [hR]; exact ⟨Nat.zero_le _, Nat.zero_le _⟩) (fun H locs hM hS => ?_)
    refine lv_iload hx hb dX3_edge_90 (lv_at hl 0 rfl) ?_
    have eF : (nI 0, fX1_putEdge_t (recI I x p n hs c ec lc) (p + 44) a0 b0 false) = fX3_edge_t0 I x p n hs c ec lc a0 b0 := by unfold fX3_edge_t0; rw [if_neg (Bool.eq_false_iff.mp c4)]
    exact mr_iret (v := nI 0) C0 hr hlk hQ hS (by rw [← eF]) (by rw [← eF]; exact hM) (Nat.le_refl _) (Nat.le_refl _) dX3_edge_92
  · skip
    refine lv_iconst (v := nI 1) hx hb dX3_edge_61 (by decide) ?_
    refine lv_goto (tgt := 66) hx hb dX3_edge_62 (by decide) ?_
    refine lv_istore (lv' := [(4, .int (nI 1)), (0, .ref x), (1, .int (nI a0)), (2, .int (nI b0)), (3, .int (nI 0))]) hx hb dX3_edge_66 hl (by decide) rfl (fun ls hl => ?_)
    refine lv_aload_n hx hb dX3_edge_68 rfl (lv_at hl 1 rfl) ?_
    refine mr_getr (r := p) (TT := TX3) (N := 7) C0 uX3_edge_X3 hM hX2.1.1 hX2.1.2 rfl 0 (by decide) rfl kX3_edge_f10 rfl dX3_edge_69 ?_
    refine mr_getr (r := p + 44) (TT := TX2) (N := 10) C0 uX3_edge_X2 hM hX2.2.1.1.1 hX2.2.1.1.2 rfl 4 (by decide) rfl kX3_edge_f97 rfl dX3_edge_72 ?_
    refine lv_iload_n hx hb dX3_edge_75 rfl (lv_at hl 2 rfl) ?_
    refine lv_iload_n hx hb dX3_edge_76 rfl (lv_at hl 3 rfl) ?_
    refine lv_iload_n hx hb dX3_edge_77 rfl (lv_at hl 4 rfl) ?_
    refine lv_iconst (v := nI 1) hx hb dX3_edge_78 (by decide) ?_
    refine mr_neN (x := 0) (y := 1) (tgt := 86) C0 dX3_edge_79 (by decide) (by decide) (by decide) (fun _ => ?_) (fun c6 => absurd c6 (by decide))
    refine lv_iconst (v := nI 0) hx hb dX3_edge_86 (by decide) ?_
    refine mr_callV (As := [.int (nI a0), .int (nI b0), .int (nI 0)]) C0 (ctX1_putEdge_t (I := (recI I x p n hs c ec lc)) (J := J) (a := (p + 44)) (x := a0) (y := b0) (on := false) hX2.2.1.2.2.2.2.2.1 (by omega) (by omega) (by omega)) (cwV 3 C0.1.2.2.2.2 gX3_edge_X1_putEdge rfl rfl rfl (by decide +kernel) (by rw [hR]; exact ⟨Nat.le_of_ble_eq_true rfl, Nat.le_of_ble_eq_true rfl⟩)) hM hX2.2.1.2.2.2.2.2.1.1.1 hX2.2.1.2.2.2.2.2.1.1.2 rfl rfl hM hS rfl rfl rfl hl.1 (Nat.le_of_ble_eq_true rfl) dX3_edge_87 (by rw [hR]; exact ⟨Nat.zero_le _, Nat.zero_le _⟩) (fun H locs hM hS => ?_)
    refine lv_iload hx hb dX3_edge_90 (lv_at hl 0 rfl) ?_
    have eF : (nI 1, fX1_putEdge_t (recI I x p n hs c ec lc) (p + 44) a0 b0 false) = fX3_edge_t0 I x p n hs c ec lc a0 b0 := by unfold fX3_edge_t0; rw [if_pos c4]
    exact mr_iret (v := nI 1) C0 hr hlk hQ hS (by rw [← eF]) (by rw [← eF]; exact hM) (Nat.le_refl _) (Nat.le_refl _) dX3_edge_92
set_option maxHeartbeats 4000000 in
set_option maxRecDepth 100000 in
theorem ctX3_commit_f {l : Launch} {D : va_G} {T : Nat → ClassId} {L : List Nat} {A : Nat → Prop} {Sh : hm_S} {I : hm_I} {J : hm_J} {x p f h m k j : Nat} {hs im : Nat → Nat} (hX : IsX L Sh x p f h m k j hs im) (hA : ApX x p f h m k j hs im) {c : Nat → Nat} {e : Nat → Nat → Nat} {ec lc : Nat} (hW : WfS I p c e ec lc) {n : Nat} (hn : I x 3 = nI n) (hn8 : n ≤ 8) (hec : ec = 10) :
    Ct l yX3_commit wsX3_commit { frames := 0, cells := 0, slots := 0, locals := 0 } 0 0 D T A [.ref x] (hm D T L A Sh I J) (some (.int (-3))) (hm D T L A Sh I J) := by
  refine Ct.ofW (cc := cX3_commit) (maxL := 1) (ret := (some .int)) (by decide) rfl (Nat.le_of_ble_eq_true rfl) ?_
  intro p_ e_ s_ m_ args_ below_ meth_ c_ ls R Qq hR hQ C0 hr hlk hname hM hl
  have hx := C0.1.1
  have hb := C0.1.2.1
  have hS : va_S A s_.heap s_.heap [] := va_S.rf
  have hl : lv_has ls 1 [(0, .ref x)] := hl
  have hec10 := hW.2.2.2.2.1
  have hec1 := hW.2.2.2.1
  refine lv_aload_n hx hb dX3_commit_0 rfl (lv_at hl 0 rfl) ?_
  refine mr_getr (r := p) (TT := TX3) (N := 7) C0 uX3_commit_X3 hM hX.1.1 hX.1.2 rfl 0 (by decide) rfl kX3_commit_f10 rfl dX3_commit_1 ?_
  have hw1 := hW.2.2.2.1
  have hw1b := hW.2.2.2.2.1
  refine mr_geti (v := nI ec) (TT := TX2) (N := 10) C0 uX3_commit_X2 hM hX.2.1.1.1 hX.2.1.1.2 rfl 6 (by decide) rfl hW.2.2.1 kX3_commit_f113 rfl dX3_commit_4 ?_
  refine lv_bipush (v := nI 10) hx hb dX3_commit_7 (by decide) ?_
  refine mr_ltN (x := ec) (y := 10) (tgt := 15) C0 dX3_commit_9 (by decide) (by omega) (by omega) (fun c2 => absurd c2 (by omega)) (fun c2 => ?_)
  refine lv_bipush (v := (-3)) hx hb dX3_commit_12 (by decide) ?_
  skip
  exact mr_iret (v := (-3)) C0 hr hlk hQ hS rfl hM (Nat.le_refl _) (Nat.le_refl _) dX3_commit_14
def fX3_commit_t (I : hm_I) (x p n : Nat) (hs c : Nat → Nat) (ec lc : Nat) : Int32 × hm_I :=
  (nI ((ec + 1) - 1), fX2_beginEpoch_t (recI I x p n hs c ec lc) p ec)
set_option maxHeartbeats 4000000 in
set_option maxRecDepth 100000 in
theorem ctX3_commit_t {l : Launch} {D : va_G} {T : Nat → ClassId} {L : List Nat} {A : Nat → Prop} {Sh : hm_S} {I : hm_I} {J : hm_J} {x p f h m k j : Nat} {hs im : Nat → Nat} (hX : IsX L Sh x p f h m k j hs im) (hA : ApX x p f h m k j hs im) {c : Nat → Nat} {e : Nat → Nat → Nat} {ec lc : Nat} (hW : WfS I p c e ec lc) {n : Nat} (hn : I x 3 = nI n) (hn8 : n ≤ 8) (hec : ec < 10) :
    Ct l yX3_commit wsX3_commit { frames := 4, cells := 0, slots := 0, locals := 85 } 0 0 D T A [.ref x] (hm D T L A Sh I J) (some (.int ((fX3_commit_t I x p n hs c ec lc).1))) (hm D T L A (recSh Sh h hs n) ((fX3_commit_t I x p n hs c ec lc).2) J) := by
  refine Ct.ofW (cc := cX3_commit) (maxL := 1) (ret := (some .int)) (by decide) rfl (Nat.le_of_ble_eq_true rfl) ?_
  intro p_ e_ s_ m_ args_ below_ meth_ c_ ls R Qq hR hQ C0 hr hlk hname hM hl
  have hx := C0.1.1
  have hb := C0.1.2.1
  have hS : va_S A s_.heap s_.heap [] := va_S.rf
  have hl : lv_has ls 1 [(0, .ref x)] := hl
  have hec10 := hW.2.2.2.2.1
  have hec1 := hW.2.2.2.1
  refine lv_aload_n hx hb dX3_commit_0 rfl (lv_at hl 0 rfl) ?_
  refine mr_getr (r := p) (TT := TX3) (N := 7) C0 uX3_commit_X3 hM hX.1.1 hX.1.2 rfl 0 (by decide) rfl kX3_commit_f10 rfl dX3_commit_1 ?_
  have hw1 := hW.2.2.2.1
  have hw1b := hW.2.2.2.2.1
  refine mr_geti (v := nI ec) (TT := TX2) (N := 10) C0 uX3_commit_X2 hM hX.2.1.1.1 hX.2.1.1.2 rfl 6 (by decide) rfl hW.2.2.1 kX3_commit_f113 rfl dX3_commit_4 ?_
  refine lv_bipush (v := nI 10) hx hb dX3_commit_7 (by decide) ?_
  refine mr_ltN (x := ec) (y := 10) (tgt := 15) C0 dX3_commit_9 (by decide) (by omega) (by omega) (fun c2 => ?_) (fun c2 => absurd c2 (by omega))
  refine lv_aload_n hx hb dX3_commit_15 rfl (lv_at hl 0 rfl) ?_
  refine mr_callV (As := []) C0 (ctX3_record (I := I) (J := J) hX hA hW hn (by omega)) (cwV 0 C0.1.2.2.2.2 gX3_commit_X3_record rfl rfl rfl (by decide +kernel) (by rw [hR]; exact ⟨Nat.le_of_ble_eq_true rfl, Nat.le_of_ble_eq_true rfl⟩)) hM hX.1.1 hX.1.2 rfl rfl hM hS rfl rfl rfl hl.1 (Nat.le_of_ble_eq_true rfl) dX3_commit_16 (by rw [hR]; exact ⟨Nat.zero_le _, Nat.zero_le _⟩) (fun H locs hM hS => ?_)
  have hX2 := IsX_rec (n := n) hX hA
  refine lv_aload_n hx hb dX3_commit_19 rfl (lv_at hl 0 rfl) ?_
  refine mr_getr (r := p) (TT := TX3) (N := 7) C0 uX3_commit_X3 hM hX2.1.1 hX2.1.2 rfl 0 (by decide) rfl kX3_commit_f10 rfl dX3_commit_20 ?_
  refine mr_callV (As := []) C0 (ctX2_beginEpoch_t (I := (recI I x p n hs c ec lc)) (J := J) (q := p) hX2.2.1 (WfS_rec (n := n) hA hW) (by omega)) (cwV 0 C0.1.2.2.2.2 gX3_commit_X2_beginEpoch rfl rfl rfl (by decide +kernel) (by rw [hR]; exact ⟨Nat.le_of_ble_eq_true rfl, Nat.le_of_ble_eq_true rfl⟩)) hM hX2.2.1.1.1 hX2.2.1.1.2 rfl rfl hM hS rfl rfl rfl hl.1 (Nat.le_of_ble_eq_true rfl) dX3_commit_23 (by rw [hR]; exact ⟨Nat.zero_le _, Nat.zero_le _⟩) (fun H locs hM hS => ?_)
  refine lv_aload_n hx hb dX3_commit_26 rfl (lv_at hl 0 rfl) ?_
  refine mr_getr (r := p) (TT := TX3) (N := 7) C0 uX3_commit_X3 hM hX2.1.1 hX2.1.2 rfl 0 (by decide) rfl kX3_commit_f10 rfl dX3_commit_27 ?_
  refine mr_callV (As := []) C0 (ctX2_currentEpoch (I := (fX2_beginEpoch_t (recI I x p n hs c ec lc) p ec)) (J := J) (q := p) hX2.2.1 (WfS_begin (WfS_rec (n := n) hA hW) (by omega))) (cwV 0 C0.1.2.2.2.2 gX3_commit_X2_currentEpoch rfl rfl rfl (by decide +kernel) (by rw [hR]; exact ⟨Nat.le_of_ble_eq_true rfl, Nat.le_of_ble_eq_true rfl⟩)) hM hX2.2.1.1.1 hX2.2.1.1.2 rfl rfl hM hS rfl rfl rfl hl.1 (Nat.le_of_ble_eq_true rfl) dX3_commit_30 (by rw [hR]; exact ⟨Nat.zero_le _, Nat.zero_le _⟩) (fun H locs hM hS => ?_)
  have eF : (nI ((ec + 1) - 1), fX2_beginEpoch_t (recI I x p n hs c ec lc) p ec) = fX3_commit_t I x p n hs c ec lc := rfl
  exact mr_iret (v := nI ((ec + 1) - 1)) C0 hr hlk hQ hS (by rw [← eF]) (by rw [← eF]; exact hM) (Nat.le_refl _) (Nat.le_refl _) dX3_commit_33
set_option maxHeartbeats 4000000 in
set_option maxRecDepth 100000 in
theorem ctX3_revert_b {l : Launch} {D : va_G} {T : Nat → ClassId} {L : List Nat} {A : Nat → Prop} {Sh : hm_S} {I : hm_I} {J : hm_J} {x p f h m k j : Nat} {hs im : Nat → Nat} (hX : IsX L Sh x p f h m k j hs im) (hA : ApX x p f h m k j hs im) {c : Nat → Nat} {e : Nat → Nat → Nat} {ec lc : Nat} (hW : WfS I p c e ec lc) {n : Nat} (hn : I x 3 = nI n) (hn8 : n ≤ 8) {e0 : Int32} (hb0 : fX3_isEpoch ec e0 = false) :
    Ct l yX3_revert wsX3_revert { frames := 1, cells := 0, slots := 0, locals := 21 } 0 0 D T A [.ref x, .int e0] (hm D T L A Sh I J) (some (.int (-1))) (hm D T L A Sh I J) := by
  refine Ct.ofW (cc := cX3_revert) (maxL := 2) (ret := (some .int)) (by decide) rfl (Nat.le_of_ble_eq_true rfl) ?_
  intro p_ e_ s_ m_ args_ below_ meth_ c_ ls R Qq hR hQ C0 hr hlk hname hM hl
  have hx := C0.1.1
  have hb := C0.1.2.1
  have hS : va_S A s_.heap s_.heap [] := va_S.rf
  have hl : lv_has ls 2 [(0, .ref x), (1, .int e0)] := hl
  have hec10 := hW.2.2.2.2.1
  have hec1 := hW.2.2.2.1
  refine lv_aload_n hx hb dX3_revert_0 rfl (lv_at hl 0 rfl) ?_
  refine lv_iload_n hx hb dX3_revert_1 rfl (lv_at hl 1 rfl) ?_
  refine mr_callV (As := [.int e0]) C0 (ctX3_isEpoch (I := I) (J := J) (e0 := e0) hX hA hW) (cwV 1 C0.1.2.2.2.2 gX3_revert_X3_isEpoch rfl rfl rfl (by decide +kernel) (by rw [hR]; exact ⟨Nat.le_of_ble_eq_true rfl, Nat.le_of_ble_eq_true rfl⟩)) hM hX.1.1 hX.1.2 rfl rfl hM hS rfl rfl rfl hl.1 (Nat.le_of_ble_eq_true rfl) dX3_revert_2 (by rw [hR]; exact ⟨Nat.zero_le _, Nat.zero_le _⟩) (fun H locs hM hS => ?_)
  refine mr_neB (tgt := 10) C0 dX3_revert_5 (by decide) (fun c1 => absurd c1 (by rw [hb0]; decide)) (fun c1 => ?_)
  refine lv_iconst (v := (-1)) hx hb dX3_revert_8 (by decide) ?_
  skip
  exact mr_iret (v := (-1)) C0 hr hlk hQ hS rfl hM (Nat.le_refl _) (Nat.le_refl _) dX3_revert_9
def fX3_revert_t (I : hm_I) (x p n : Nat) (hs c : Nat → Nat) (ec lc : Nat) (e0 : Nat) : Int32 × hm_I :=
  (fX1_edgeCount (fX1_copyFrom (recI I x p n hs c ec lc) (p + 44) (p + 48 + 3 * e0)) (p + 44), fX1_copyFrom (recI I x p n hs c ec lc) (p + 44) (p + 48 + 3 * e0))
set_option maxHeartbeats 4000000 in
set_option maxRecDepth 100000 in
theorem ctX3_revert_t {l : Launch} {D : va_G} {T : Nat → ClassId} {L : List Nat} {A : Nat → Prop} {Sh : hm_S} {I : hm_I} {J : hm_J} {x p f h m k j : Nat} {hs im : Nat → Nat} (hX : IsX L Sh x p f h m k j hs im) (hA : ApX x p f h m k j hs im) {c : Nat → Nat} {e : Nat → Nat → Nat} {ec lc : Nat} (hW : WfS I p c e ec lc) {n : Nat} (hn : I x 3 = nI n) (hn8 : n ≤ 8) {e0 : Nat} (he0 : e0 < ec) (hw0 : fX3_isEpoch ec (nI e0) = true) :
    Ct l yX3_revert wsX3_revert { frames := 4, cells := 0, slots := 0, locals := 85 } 0 0 D T A [.ref x, .int (nI e0)] (hm D T L A Sh I J) (some (.int ((fX3_revert_t I x p n hs c ec lc e0).1))) (hm D T L A (recSh Sh h hs n) ((fX3_revert_t I x p n hs c ec lc e0).2) J) := by
  refine Ct.ofW (cc := cX3_revert) (maxL := 2) (ret := (some .int)) (by decide) rfl (Nat.le_of_ble_eq_true rfl) ?_
  intro p_ e_ s_ m_ args_ below_ meth_ c_ ls R Qq hR hQ C0 hr hlk hname hM hl
  have hx := C0.1.1
  have hb := C0.1.2.1
  have hS : va_S A s_.heap s_.heap [] := va_S.rf
  have hl : lv_has ls 2 [(0, .ref x), (1, .int (nI e0))] := hl
  have hec10 := hW.2.2.2.2.1
  have hec1 := hW.2.2.2.1
  refine lv_aload_n hx hb dX3_revert_0 rfl (lv_at hl 0 rfl) ?_
  refine lv_iload_n hx hb dX3_revert_1 rfl (lv_at hl 1 rfl) ?_
  refine mr_callV (As := [.int (nI e0)]) C0 (ctX3_isEpoch (I := I) (J := J) (e0 := (nI e0)) hX hA hW) (cwV 1 C0.1.2.2.2.2 gX3_revert_X3_isEpoch rfl rfl rfl (by decide +kernel) (by rw [hR]; exact ⟨Nat.le_of_ble_eq_true rfl, Nat.le_of_ble_eq_true rfl⟩)) hM hX.1.1 hX.1.2 rfl rfl hM hS rfl rfl rfl hl.1 (Nat.le_of_ble_eq_true rfl) dX3_revert_2 (by rw [hR]; exact ⟨Nat.zero_le _, Nat.zero_le _⟩) (fun H locs hM hS => ?_)
  refine mr_neB (tgt := 10) C0 dX3_revert_5 (by decide) (fun c1 => ?_) (fun c1 => absurd c1 (by rw [hw0]; decide))
  refine lv_aload_n hx hb dX3_revert_10 rfl (lv_at hl 0 rfl) ?_
  refine mr_callV (As := []) C0 (ctX3_record (I := I) (J := J) hX hA hW hn (by omega)) (cwV 0 C0.1.2.2.2.2 gX3_revert_X3_record rfl rfl rfl (by decide +kernel) (by rw [hR]; exact ⟨Nat.le_of_ble_eq_true rfl, Nat.le_of_ble_eq_true rfl⟩)) hM hX.1.1 hX.1.2 rfl rfl hM hS rfl rfl rfl hl.1 (Nat.le_of_ble_eq_true rfl) dX3_revert_11 (by rw [hR]; exact ⟨Nat.zero_le _, Nat.zero_le _⟩) (fun H locs hM hS => ?_)
  have hX2 := IsX_rec (n := n) hX hA
  refine lv_aload_n hx hb dX3_revert_14 rfl (lv_at hl 0 rfl) ?_
  refine mr_getr (r := p) (TT := TX3) (N := 7) C0 uX3_revert_X3 hM hX2.1.1 hX2.1.2 rfl 0 (by decide) rfl kX3_revert_f10 rfl dX3_revert_15 ?_
  refine mr_getr (r := p + 44) (TT := TX2) (N := 10) C0 uX3_revert_X2 hM hX2.2.1.1.1 hX2.2.1.1.2 rfl 4 (by decide) rfl kX3_revert_f97 rfl dX3_revert_18 ?_
  refine lv_aload_n hx hb dX3_revert_21 rfl (lv_at hl 0 rfl) ?_
  refine mr_getr (r := p) (TT := TX3) (N := 7) C0 uX3_revert_X3 hM hX2.1.1 hX2.1.2 rfl 0 (by decide) rfl kX3_revert_f10 rfl dX3_revert_22 ?_
  refine lv_iload_n hx hb dX3_revert_25 rfl (lv_at hl 1 rfl) ?_
  refine mr_callV (As := [.int (nI e0)]) C0 (ctX2_orderOf_t (I := (recI I x p n hs c ec lc)) (J := J) (q := p) (e0 := e0) hX2.2.1 (WfS_rec (n := n) hA hW) (by omega)) (cwV 1 C0.1.2.2.2.2 gX3_revert_X2_orderOf rfl rfl rfl (by decide +kernel) (by rw [hR]; exact ⟨Nat.le_of_ble_eq_true rfl, Nat.le_of_ble_eq_true rfl⟩)) hM hX2.2.1.1.1 hX2.2.1.1.2 rfl rfl hM hS rfl rfl rfl hl.1 (Nat.le_of_ble_eq_true rfl) dX3_revert_26 (by rw [hR]; exact ⟨Nat.zero_le _, Nat.zero_le _⟩) (fun H locs hM hS => ?_)
  refine mr_callV (As := [.ref (p + 48 + 3 * e0)]) C0 (ctX1_copyFrom (I := (recI I x p n hs c ec lc)) (J := J) (a := (p + 44)) (b := (p + 48 + 3 * e0)) hX2.2.1.2.2.2.2.2.1 (hX2.2.1.2.2.2.2.2.2.2.1 _ (by omega)) (by omega)) (cwV 1 C0.1.2.2.2.2 gX3_revert_X1_copyFrom rfl rfl rfl (by decide +kernel) (by rw [hR]; exact ⟨Nat.le_of_ble_eq_true rfl, Nat.le_of_ble_eq_true rfl⟩)) hM hX2.2.1.2.2.2.2.2.1.1.1 hX2.2.1.2.2.2.2.2.1.1.2 rfl rfl hM hS rfl rfl rfl hl.1 (Nat.le_of_ble_eq_true rfl) dX3_revert_29 (by rw [hR]; exact ⟨Nat.zero_le _, Nat.zero_le _⟩) (fun H locs hM hS => ?_)
  refine lv_aload_n hx hb dX3_revert_32 rfl (lv_at hl 0 rfl) ?_
  refine mr_getr (r := p) (TT := TX3) (N := 7) C0 uX3_revert_X3 hM hX2.1.1 hX2.1.2 rfl 0 (by decide) rfl kX3_revert_f10 rfl dX3_revert_33 ?_
  refine mr_getr (r := p + 44) (TT := TX2) (N := 10) C0 uX3_revert_X2 hM hX2.2.1.1.1 hX2.2.1.1.2 rfl 4 (by decide) rfl kX3_revert_f97 rfl dX3_revert_36 ?_
  refine mr_callV (As := []) C0 (ctX1_edgeCount (I := (fX1_copyFrom (recI I x p n hs c ec lc) (p + 44) (p + 48 + 3 * e0))) (J := J) (a := (p + 44)) hX2.2.1.2.2.2.2.2.1) (cwV 0 C0.1.2.2.2.2 gX3_revert_X1_edgeCount rfl rfl rfl (by decide +kernel) (by rw [hR]; exact ⟨Nat.le_of_ble_eq_true rfl, Nat.le_of_ble_eq_true rfl⟩)) hM hX2.2.1.2.2.2.2.2.1.1.1 hX2.2.1.2.2.2.2.2.1.1.2 rfl rfl hM hS rfl rfl rfl hl.1 (Nat.le_of_ble_eq_true rfl) dX3_revert_39 (by rw [hR]; exact ⟨Nat.zero_le _, Nat.zero_le _⟩) (fun H locs hM hS => ?_)
  have eF : (fX1_edgeCount (fX1_copyFrom (recI I x p n hs c ec lc) (p + 44) (p + 48 + 3 * e0)) (p + 44), fX1_copyFrom (recI I x p n hs c ec lc) (p + 44) (p + 48 + 3 * e0)) = fX3_revert_t I x p n hs c ec lc e0 := rfl
  exact mr_iret (v := fX1_edgeCount (fX1_copyFrom (recI I x p n hs c ec lc) (p + 44) (p + 48 + 3 * e0)) (p + 44)) C0 hr hlk hQ hS (by rw [← eF]) (by rw [← eF]; exact hM) (Nat.le_refl _) (Nat.le_refl _) dX3_revert_42
set_option maxHeartbeats 4000000 in
set_option maxRecDepth 100000 in
theorem ctX3_witness_b {l : Launch} {D : va_G} {T : Nat → ClassId} {L : List Nat} {A : Nat → Prop} {Sh : hm_S} {I : hm_I} {J : hm_J} {x p f h m k j : Nat} {hs im : Nat → Nat} (hX : IsX L Sh x p f h m k j hs im) (hA : ApX x p f h m k j hs im) {c : Nat → Nat} {e : Nat → Nat → Nat} {ec lc : Nat} (hW : WfS I p c e ec lc) {n : Nat} (hn : I x 3 = nI n) (hn8 : n ≤ 8) {a0 b0 k0 : Int32} (hb0 : fX3_areTwoStreams a0 b0 = true → ¬ (-1) ≤ k0) :
    Ct l yX3_witness wsX3_witness { frames := 2, cells := 0, slots := 0, locals := 41 } 0 0 D T A [.ref x, .int a0, .int b0, .int k0] (hm D T L A Sh I J) (some (.int (-1))) (hm D T L A Sh I J) := by
  refine Ct.ofW (cc := cX3_witness) (maxL := 5) (ret := (some .int)) (by decide) rfl (Nat.le_of_ble_eq_true rfl) ?_
  intro p_ e_ s_ m_ args_ below_ meth_ c_ ls R Qq hR hQ C0 hr hlk hname hM hl
  have hx := C0.1.1
  have hb := C0.1.2.1
  have hS : va_S A s_.heap s_.heap [] := va_S.rf
  have hl : lv_has ls 5 [(0, .ref x), (1, .int a0), (2, .int b0), (3, .int k0)] := hl
  have hec10 := hW.2.2.2.2.1
  have hec1 := hW.2.2.2.1
  refine lv_iload_n hx hb dX3_witness_0 rfl (lv_at hl 1 rfl) ?_
  refine lv_iload_n hx hb dX3_witness_1 rfl (lv_at hl 2 rfl) ?_
  refine mr_callS (As := [.int a0, .int b0]) C0 (ctX3_areTwoStreams (I := I) (J := J) (a0 := a0) (b0 := b0) ) (va_cwS 2 C0.1.2.2.2.2 gX3_witness_X3_areTwoStreams rfl rfl rfl (by decide +kernel) (by rw [hR]; exact ⟨Nat.le_of_ble_eq_true rfl, Nat.le_of_ble_eq_true rfl⟩)) hM hS rfl rfl rfl hl.1 (Nat.le_of_ble_eq_true rfl) dX3_witness_2 (by rw [hR]; exact ⟨Nat.zero_le _, Nat.zero_le _⟩) (fun H locs hM hS => ?_)
  refine mr_eqB (tgt := 13) C0 dX3_witness_5 (by decide) (fun c1 => ?_) (fun c1 => ?_)
  · skip
    refine lv_iconst (v := (-1)) hx hb dX3_witness_13 (by decide) ?_
    skip
    exact mr_iret (v := (-1)) C0 hr hlk hQ hS rfl hM (Nat.le_refl _) (Nat.le_refl _) dX3_witness_14
  · skip
    refine lv_iload_n hx hb dX3_witness_8 rfl (lv_at hl 3 rfl) ?_
    refine lv_iconst (v := (-1)) hx hb dX3_witness_9 (by decide) ?_
    refine lv_icmp_ge (tgt := 15) hx hb dX3_witness_10 (by decide) (fun c2 => absurd c2 (hb0 c1)) (fun c2 => ?_)
    refine lv_iconst (v := (-1)) hx hb dX3_witness_13 (by decide) ?_
    skip
    exact mr_iret (v := (-1)) C0 hr hlk hQ hS rfl hM (Nat.le_refl _) (Nat.le_refl _) dX3_witness_14
def fX3_witness_m (I : hm_I) (p a0 b0 : Nat) : Int32 :=
  if fX1_distance I (p + 44) b0 a0 = (-9) then (-9) else fX1_distance I (p + 44) b0 a0
set_option maxHeartbeats 4000000 in
set_option maxRecDepth 100000 in
theorem ctX3_witness_m {l : Launch} {D : va_G} {T : Nat → ClassId} {L : List Nat} {A : Nat → Prop} {Sh : hm_S} {I : hm_I} {J : hm_J} {x p f h m k j : Nat} {hs im : Nat → Nat} (hX : IsX L Sh x p f h m k j hs im) (hA : ApX x p f h m k j hs im) {c : Nat → Nat} {e : Nat → Nat → Nat} {ec lc : Nat} (hW : WfS I p c e ec lc) {a0 b0 : Nat} (ha0 : a0 < 8) (hb0 : b0 < 8) (hab : a0 ≠ b0) :
    Ct l yX3_witness wsX3_witness { frames := 3, cells := 0, slots := 0, locals := 68 } 0 0 D T A [.ref x, .int (nI a0), .int (nI b0), .int (-1)] (hm D T L A Sh I J) (some (.int (fX3_witness_m I p a0 b0))) (hm D T L A Sh I J) := by
  refine Ct.ofW (cc := cX3_witness) (maxL := 5) (ret := (some .int)) (by decide) rfl (Nat.le_of_ble_eq_true rfl) ?_
  intro p_ e_ s_ m_ args_ below_ meth_ c_ ls R Qq hR hQ C0 hr hlk hname hM hl
  have hx := C0.1.1
  have hb := C0.1.2.1
  have hS : va_S A s_.heap s_.heap [] := va_S.rf
  have hl : lv_has ls 5 [(0, .ref x), (1, .int (nI a0)), (2, .int (nI b0)), (3, .int (-1))] := hl
  refine lv_iload_n hx hb dX3_witness_0 rfl (lv_at hl 1 rfl) ?_
  refine lv_iload_n hx hb dX3_witness_1 rfl (lv_at hl 2 rfl) ?_
  refine mr_callS (As := [.int (nI a0), .int (nI b0)]) C0 (ctX3_areTwoStreams_t (I := I) (J := J) (a0 := a0) (b0 := b0) (by omega) (by omega) (by omega)) (va_cwS 2 C0.1.2.2.2.2 gX3_witness_X3_areTwoStreams rfl rfl rfl (by decide +kernel) (by rw [hR]; exact ⟨Nat.le_of_ble_eq_true rfl, Nat.le_of_ble_eq_true rfl⟩)) hM hS rfl rfl rfl hl.1 (Nat.le_of_ble_eq_true rfl) dX3_witness_2 (by rw [hR]; exact ⟨Nat.zero_le _, Nat.zero_le _⟩) (fun H locs hM hS => ?_)
  refine mr_eqB (tgt := 13) C0 dX3_witness_5 (by decide) (fun c1 => absurd c1 (by decide)) (fun _ => ?_)
  refine lv_iload_n hx hb dX3_witness_8 rfl (lv_at hl 3 rfl) ?_
  refine lv_iconst (v := (-1)) hx hb dX3_witness_9 (by decide) ?_
  refine lv_icmp_ge (tgt := 15) hx hb dX3_witness_10 (by decide) (fun c2 => ?_) (fun c2 => absurd (by decide) c2)
  refine lv_aload_n hx hb dX3_witness_15 rfl (lv_at hl 0 rfl) ?_
  refine mr_getr (r := p) (TT := TX3) (N := 7) C0 uX3_witness_X3 hM hX.1.1 hX.1.2 rfl 0 (by decide) rfl kX3_witness_f10 rfl dX3_witness_16 ?_
  refine mr_getr (r := p + 44) (TT := TX2) (N := 10) C0 uX3_witness_X2 hM hX.2.1.1.1 hX.2.1.1.2 rfl 4 (by decide) rfl kX3_witness_f97 rfl dX3_witness_19 ?_
  refine lv_iload_n hx hb dX3_witness_22 rfl (lv_at hl 2 rfl) ?_
  refine lv_iload_n hx hb dX3_witness_23 rfl (lv_at hl 1 rfl) ?_
  refine mr_callV (As := [.int (nI b0), .int (nI a0)]) C0 (ctX1_distance (I := I) (J := J) (a := (p + 44)) (x := b0) (y := a0) hX.2.1.2.2.2.2.2.1) (cwV 2 C0.1.2.2.2.2 gX3_witness_X1_distance rfl rfl rfl (by decide +kernel) (by rw [hR]; exact ⟨Nat.le_of_ble_eq_true rfl, Nat.le_of_ble_eq_true rfl⟩)) hM hX.2.1.2.2.2.2.2.1.1.1 hX.2.1.2.2.2.2.2.1.1.2 rfl rfl hM hS rfl rfl rfl hl.1 (Nat.le_of_ble_eq_true rfl) dX3_witness_24 (by rw [hR]; exact ⟨Nat.zero_le _, Nat.zero_le _⟩) (fun H locs hM hS => ?_)
  refine lv_istore (lv' := [(4, .int (fX1_distance I (p + 44) b0 a0)), (0, .ref x), (1, .int (nI a0)), (2, .int (nI b0)), (3, .int (-1))]) hx hb dX3_witness_27 hl (by decide) rfl (fun ls hl => ?_)
  refine lv_iload hx hb dX3_witness_29 (lv_at hl 0 rfl) ?_
  refine lv_bipush (v := (-9)) hx hb dX3_witness_31 (by decide) ?_
  refine lv_icmp_ne (tgt := 39) hx hb dX3_witness_33 (by decide) (fun c3 => ?_) (fun c3 => ?_)
  · skip
    refine lv_iload_n hx hb dX3_witness_39 rfl (lv_at hl 4 rfl) ?_
    refine lv_iconst (v := (-1)) hx hb dX3_witness_40 (by decide) ?_
    refine lv_icmp_ne (tgt := 47) hx hb dX3_witness_41 (by decide) (fun c4 => absurd rfl c4) (fun c4 => ?_)
    refine lv_iload hx hb dX3_witness_44 (lv_at hl 0 rfl) ?_
    have eF : fX1_distance I (p + 44) b0 a0 = fX3_witness_m I p a0 b0 := by unfold fX3_witness_m; rw [if_neg c3]
    exact mr_iret (v := fX1_distance I (p + 44) b0 a0) C0 hr hlk hQ hS (by rw [← eF]) hM (Nat.le_refl _) (Nat.le_refl _) dX3_witness_46
  · skip
    refine lv_bipush (v := (-9)) hx hb dX3_witness_36 (by decide) ?_
    have eF : (-9) = fX3_witness_m I p a0 b0 := by unfold fX3_witness_m; rw [if_pos c3]
    exact mr_iret (v := (-9)) C0 hr hlk hQ hS (by rw [← eF]) hM (Nat.le_refl _) (Nat.le_refl _) dX3_witness_38
def fX3_witness_n (I : hm_I) (p a0 b0 k0 : Nat) : Int32 :=
  if fX1_distance I (p + 44) b0 a0 = (-9) then (-9) else if nI k0 ≤ fX1_distance I (p + 44) b0 a0 then fX1_streamOfWalk I (p + 44) b0 a0 k0 else (-9)
set_option maxHeartbeats 4000000 in
set_option maxRecDepth 100000 in
theorem ctX3_witness_n {l : Launch} {D : va_G} {T : Nat → ClassId} {L : List Nat} {A : Nat → Prop} {Sh : hm_S} {I : hm_I} {J : hm_J} {x p f h m k j : Nat} {hs im : Nat → Nat} (hX : IsX L Sh x p f h m k j hs im) (hA : ApX x p f h m k j hs im) {c : Nat → Nat} {e : Nat → Nat → Nat} {ec lc : Nat} (hW : WfS I p c e ec lc) {a0 b0 : Nat} (ha0 : a0 < 8) (hb0 : b0 < 8) (hab : a0 ≠ b0) {k0 : Nat} (hk0 : k0 < 2 ^ 31) (hk8 : ¬ fX1_distance I (p + 44) b0 a0 = (-9) → ¬ fX1_distance I (p + 44) b0 a0 < nI k0 → k0 < 8) :
    Ct l yX3_witness wsX3_witness { frames := 5, cells := 0, slots := 0, locals := 118 } 0 0 D T A [.ref x, .int (nI a0), .int (nI b0), .int (nI k0)] (hm D T L A Sh I J) (some (.int (fX3_witness_n I p a0 b0 k0))) (hm D T L A Sh I J) := by
  refine Ct.ofW (cc := cX3_witness) (maxL := 5) (ret := (some .int)) (by decide) rfl (Nat.le_of_ble_eq_true rfl) ?_
  intro p_ e_ s_ m_ args_ below_ meth_ c_ ls R Qq hR hQ C0 hr hlk hname hM hl
  have hx := C0.1.1
  have hb := C0.1.2.1
  have hS : va_S A s_.heap s_.heap [] := va_S.rf
  have hl : lv_has ls 5 [(0, .ref x), (1, .int (nI a0)), (2, .int (nI b0)), (3, .int (nI k0))] := hl
  refine lv_iload_n hx hb dX3_witness_0 rfl (lv_at hl 1 rfl) ?_
  refine lv_iload_n hx hb dX3_witness_1 rfl (lv_at hl 2 rfl) ?_
  refine mr_callS (As := [.int (nI a0), .int (nI b0)]) C0 (ctX3_areTwoStreams_t (I := I) (J := J) (a0 := a0) (b0 := b0) (by omega) (by omega) (by omega)) (va_cwS 2 C0.1.2.2.2.2 gX3_witness_X3_areTwoStreams rfl rfl rfl (by decide +kernel) (by rw [hR]; exact ⟨Nat.le_of_ble_eq_true rfl, Nat.le_of_ble_eq_true rfl⟩)) hM hS rfl rfl rfl hl.1 (Nat.le_of_ble_eq_true rfl) dX3_witness_2 (by rw [hR]; exact ⟨Nat.zero_le _, Nat.zero_le _⟩) (fun H locs hM hS => ?_)
  refine mr_eqB (tgt := 13) C0 dX3_witness_5 (by decide) (fun c1 => absurd c1 (by decide)) (fun _ => ?_)
  refine lv_iload_n hx hb dX3_witness_8 rfl (lv_at hl 3 rfl) ?_
  refine lv_iconst (v := (-1)) hx hb dX3_witness_9 (by decide) ?_
  refine lv_icmp_ge (tgt := 15) hx hb dX3_witness_10 (by decide) (fun c2 => ?_) (fun c2 => absurd (m1_le hk0) c2)
  refine lv_aload_n hx hb dX3_witness_15 rfl (lv_at hl 0 rfl) ?_
  refine mr_getr (r := p) (TT := TX3) (N := 7) C0 uX3_witness_X3 hM hX.1.1 hX.1.2 rfl 0 (by decide) rfl kX3_witness_f10 rfl dX3_witness_16 ?_
  refine mr_getr (r := p + 44) (TT := TX2) (N := 10) C0 uX3_witness_X2 hM hX.2.1.1.1 hX.2.1.1.2 rfl 4 (by decide) rfl kX3_witness_f97 rfl dX3_witness_19 ?_
  refine lv_iload_n hx hb dX3_witness_22 rfl (lv_at hl 2 rfl) ?_
  refine lv_iload_n hx hb dX3_witness_23 rfl (lv_at hl 1 rfl) ?_
  refine mr_callV (As := [.int (nI b0), .int (nI a0)]) C0 (ctX1_distance (I := I) (J := J) (a := (p + 44)) (x := b0) (y := a0) hX.2.1.2.2.2.2.2.1) (cwV 2 C0.1.2.2.2.2 gX3_witness_X1_distance rfl rfl rfl (by decide +kernel) (by rw [hR]; exact ⟨Nat.le_of_ble_eq_true rfl, Nat.le_of_ble_eq_true rfl⟩)) hM hX.2.1.2.2.2.2.2.1.1.1 hX.2.1.2.2.2.2.2.1.1.2 rfl rfl hM hS rfl rfl rfl hl.1 (Nat.le_of_ble_eq_true rfl) dX3_witness_24 (by rw [hR]; exact ⟨Nat.zero_le _, Nat.zero_le _⟩) (fun H locs hM hS => ?_)
  refine lv_istore (lv' := [(4, .int (fX1_distance I (p + 44) b0 a0)), (0, .ref x), (1, .int (nI a0)), (2, .int (nI b0)), (3, .int (nI k0))]) hx hb dX3_witness_27 hl (by decide) rfl (fun ls hl => ?_)
  refine lv_iload hx hb dX3_witness_29 (lv_at hl 0 rfl) ?_
  refine lv_bipush (v := (-9)) hx hb dX3_witness_31 (by decide) ?_
  refine lv_icmp_ne (tgt := 39) hx hb dX3_witness_33 (by decide) (fun c3 => ?_) (fun c3 => ?_)
  · skip
    refine lv_iload_n hx hb dX3_witness_39 rfl (lv_at hl 4 rfl) ?_
    refine lv_iconst (v := (-1)) hx hb dX3_witness_40 (by decide) ?_
    refine lv_icmp_ne (tgt := 47) hx hb dX3_witness_41 (by decide) (fun c4 => ?_) (fun c4 => absurd c4 (nI_ne_m1 hk0))
    refine lv_iload_n hx hb dX3_witness_47 rfl (lv_at hl 4 rfl) ?_
    refine lv_iload hx hb dX3_witness_48 (lv_at hl 0 rfl) ?_
    refine lv_icmp_le (tgt := 58) hx hb dX3_witness_50 (by decide) (fun c5 => ?_) (fun c5 => ?_)
    · skip
      have hk8x := hk8 c3 (fun q => le_lt_no c5 q)
      refine lv_aload_n hx hb dX3_witness_58 rfl (lv_at hl 1 rfl) ?_
      refine mr_getr (r := p) (TT := TX3) (N := 7) C0 uX3_witness_X3 hM hX.1.1 hX.1.2 rfl 0 (by decide) rfl kX3_witness_f10 rfl dX3_witness_59 ?_
      refine mr_getr (r := p + 44) (TT := TX2) (N := 10) C0 uX3_witness_X2 hM hX.2.1.1.1 hX.2.1.1.2 rfl 4 (by decide) rfl kX3_witness_f97 rfl dX3_witness_62 ?_
      refine lv_iload_n hx hb dX3_witness_65 rfl (lv_at hl 3 rfl) ?_
      refine lv_iload_n hx hb dX3_witness_66 rfl (lv_at hl 2 rfl) ?_
      refine lv_iload_n hx hb dX3_witness_67 rfl (lv_at hl 4 rfl) ?_
      refine mr_callV (As := [.int (nI b0), .int (nI a0), .int (nI k0)]) C0 (ctX1_streamOfWalk (I := I) (J := J) (a := (p + 44)) (x := b0) (y := a0) (k := k0) hX.2.1.2.2.2.2.2.1 (by omega)) (cwV 3 C0.1.2.2.2.2 gX3_witness_X1_streamOfWalk rfl rfl rfl (by decide +kernel) (by rw [hR]; exact ⟨Nat.le_of_ble_eq_true rfl, Nat.le_of_ble_eq_true rfl⟩)) hM hX.2.1.2.2.2.2.2.1.1.1 hX.2.1.2.2.2.2.2.1.1.2 rfl rfl hM hS rfl rfl rfl hl.1 (Nat.le_of_ble_eq_true rfl) dX3_witness_68 (by rw [hR]; exact ⟨Nat.zero_le _, Nat.zero_le _⟩) (fun H locs hM hS => ?_)
      have eF : fX1_streamOfWalk I (p + 44) b0 a0 k0 = fX3_witness_n I p a0 b0 k0 := by unfold fX3_witness_n; rw [if_neg c3, if_pos c5]
      exact mr_iret (v := fX1_streamOfWalk I (p + 44) b0 a0 k0) C0 hr hlk hQ hS (by rw [← eF]) hM (Nat.le_refl _) (Nat.le_refl _) dX3_witness_71
    · skip
      refine lv_bipush (v := (-9)) hx hb dX3_witness_53 (by decide) ?_
      refine lv_goto (tgt := 71) hx hb dX3_witness_55 (by decide) ?_
      have eF : (-9) = fX3_witness_n I p a0 b0 k0 := by unfold fX3_witness_n; rw [if_neg c3, if_neg c5]
      exact mr_iret (v := (-9)) C0 hr hlk hQ hS (by rw [← eF]) hM (Nat.le_refl _) (Nat.le_refl _) dX3_witness_71
  · skip
    refine lv_bipush (v := (-9)) hx hb dX3_witness_36 (by decide) ?_
    have eF : (-9) = fX3_witness_n I p a0 b0 k0 := by unfold fX3_witness_n; rw [if_pos c3]
    exact mr_iret (v := (-9)) C0 hr hlk hQ hS (by rw [← eF]) hM (Nat.le_refl _) (Nat.le_refl _) dX3_witness_38
set_option maxHeartbeats 4000000 in
set_option maxRecDepth 100000 in
theorem ctX3_send_n {l : Launch} {D : va_G} {T : Nat → ClassId} {L : List Nat} {A : Nat → Prop} {Sh : hm_S} {I : hm_I} {J : hm_J} {x p f h m k j : Nat} {hs im : Nat → Nat} (hX : IsX L Sh x p f h m k j hs im) (hA : ApX x p f h m k j hs im) {c : Nat → Nat} {e : Nat → Nat → Nat} {ec lc : Nat} (hW : WfS I p c e ec lc) {n : Nat} (hn : I x 3 = nI n) (hn8 : n ≤ 8) (hb0 : fX2_nextStream I p c e = (-9)) :
    Ct l yX3_send wsX3_send { frames := 5, cells := 0, slots := 0, locals := 111 } 0 0 D T A [.ref x] (hm D T L A Sh I J) (some (.int (-2))) (hm D T L A Sh I J) := by
  refine Ct.ofW (cc := cX3_send) (maxL := 3) (ret := (some .int)) (by decide) rfl (Nat.le_of_ble_eq_true rfl) ?_
  intro p_ e_ s_ m_ args_ below_ meth_ c_ ls R Qq hR hQ C0 hr hlk hname hM hl
  have hx := C0.1.1
  have hb := C0.1.2.1
  have hS : va_S A s_.heap s_.heap [] := va_S.rf
  have hl : lv_has ls 3 [(0, .ref x)] := hl
  have hec10 := hW.2.2.2.2.1
  have hec1 := hW.2.2.2.1
  refine lv_aload_n hx hb dX3_send_0 rfl (lv_at hl 0 rfl) ?_
  refine mr_getr (r := p) (TT := TX3) (N := 7) C0 uX3_send_X3 hM hX.1.1 hX.1.2 rfl 0 (by decide) rfl kX3_send_f10 rfl dX3_send_1 ?_
  refine mr_callV (As := []) C0 (ctX2_nextStream (I := I) (J := J) (q := p) hX.2.1 hW) (cwV 0 C0.1.2.2.2.2 gX3_send_X2_nextStream rfl rfl rfl (by decide +kernel) (by rw [hR]; exact ⟨Nat.le_of_ble_eq_true rfl, Nat.le_of_ble_eq_true rfl⟩)) hM hX.2.1.1.1 hX.2.1.1.2 rfl rfl hM hS rfl rfl rfl hl.1 (Nat.le_of_ble_eq_true rfl) dX3_send_4 (by rw [hR]; exact ⟨Nat.zero_le _, Nat.zero_le _⟩) (fun H locs hM hS => ?_)
  refine lv_istore_n (lv' := [(1, .int (fX2_nextStream I p c e)), (0, .ref x)]) hx hb dX3_send_7 rfl hl (by decide) rfl (fun ls hl => ?_)
  refine lv_iload_n hx hb dX3_send_8 rfl (lv_at hl 0 rfl) ?_
  refine lv_bipush (v := (-9)) hx hb dX3_send_9 (by decide) ?_
  refine lv_icmp_ne (tgt := 17) hx hb dX3_send_11 (by decide) (fun c1 => absurd hb0 c1) (fun c1 => ?_)
  refine lv_bipush (v := (-2)) hx hb dX3_send_14 (by decide) ?_
  skip
  exact mr_iret (v := (-2)) C0 hr hlk hQ hS rfl hM (Nat.le_refl _) (Nat.le_refl _) dX3_send_16
def fX3_send_t (I : hm_I) (x p n : Nat) (hs c : Nat → Nat) (ec lc : Nat) (s0 : Nat) : Int32 × hm_I :=
  ((recI I x p n hs c ec lc) ((p + 4 + 5 * s0) + 1) 0, fX2_sendFirst_t (recI I x p n hs c ec lc) p c lc s0)
set_option maxHeartbeats 4000000 in
set_option maxRecDepth 100000 in
theorem ctX3_send_t {l : Launch} {D : va_G} {T : Nat → ClassId} {L : List Nat} {A : Nat → Prop} {Sh : hm_S} {I : hm_I} {J : hm_J} {x p f h m k j : Nat} {hs im : Nat → Nat} (hX : IsX L Sh x p f h m k j hs im) (hA : ApX x p f h m k j hs im) {c : Nat → Nat} {e : Nat → Nat → Nat} {ec lc : Nat} (hW : WfS I p c e ec lc) {n : Nat} (hn : I x 3 = nI n) (hn8 : n ≤ 8) {s0 : Nat} (hs0 : s0 < 8) (hc0 : 0 < c s0) (hns : fX2_nextStream I p c e = nI s0) :
    Ct l yX3_send wsX3_send { frames := 5, cells := 0, slots := 0, locals := 111 } 0 0 D T A [.ref x] (hm D T L A Sh I J) (some (.int ((fX3_send_t I x p n hs c ec lc s0).1))) (hm D T L A (recSh Sh h hs n) ((fX3_send_t I x p n hs c ec lc s0).2) J) := by
  refine Ct.ofW (cc := cX3_send) (maxL := 3) (ret := (some .int)) (by decide) rfl (Nat.le_of_ble_eq_true rfl) ?_
  intro p_ e_ s_ m_ args_ below_ meth_ c_ ls R Qq hR hQ C0 hr hlk hname hM hl
  have hx := C0.1.1
  have hb := C0.1.2.1
  have hS : va_S A s_.heap s_.heap [] := va_S.rf
  have hl : lv_has ls 3 [(0, .ref x)] := hl
  have hec10 := hW.2.2.2.2.1
  have hec1 := hW.2.2.2.1
  refine lv_aload_n hx hb dX3_send_0 rfl (lv_at hl 0 rfl) ?_
  refine mr_getr (r := p) (TT := TX3) (N := 7) C0 uX3_send_X3 hM hX.1.1 hX.1.2 rfl 0 (by decide) rfl kX3_send_f10 rfl dX3_send_1 ?_
  refine mr_callV (As := []) C0 (ctX2_nextStream (I := I) (J := J) (q := p) hX.2.1 hW) (cwV 0 C0.1.2.2.2.2 gX3_send_X2_nextStream rfl rfl rfl (by decide +kernel) (by rw [hR]; exact ⟨Nat.le_of_ble_eq_true rfl, Nat.le_of_ble_eq_true rfl⟩)) hM hX.2.1.1.1 hX.2.1.1.2 rfl rfl hM hS rfl rfl rfl hl.1 (Nat.le_of_ble_eq_true rfl) dX3_send_4 (by rw [hR]; exact ⟨Nat.zero_le _, Nat.zero_le _⟩) (fun H locs hM hS => ?_)
  refine mr_top (y := nI s0) hns ?_
  refine lv_istore_n (lv' := [(1, .int (nI s0)), (0, .ref x)]) hx hb dX3_send_7 rfl hl (by decide) rfl (fun ls hl => ?_)
  refine lv_iload_n hx hb dX3_send_8 rfl (lv_at hl 0 rfl) ?_
  refine lv_bipush (v := (-9)) hx hb dX3_send_9 (by decide) ?_
  refine lv_icmp_ne (tgt := 17) hx hb dX3_send_11 (by decide) (fun c1 => ?_) (fun c1 => absurd c1 (nI_ne_m9 (by omega)))
  refine lv_aload_n hx hb dX3_send_17 rfl (lv_at hl 1 rfl) ?_
  refine mr_callV (As := []) C0 (ctX3_record (I := I) (J := J) hX hA hW hn (by omega)) (cwV 0 C0.1.2.2.2.2 gX3_send_X3_record rfl rfl rfl (by decide +kernel) (by rw [hR]; exact ⟨Nat.le_of_ble_eq_true rfl, Nat.le_of_ble_eq_true rfl⟩)) hM hX.1.1 hX.1.2 rfl rfl hM hS rfl rfl rfl hl.1 (Nat.le_of_ble_eq_true rfl) dX3_send_18 (by rw [hR]; exact ⟨Nat.zero_le _, Nat.zero_le _⟩) (fun H locs hM hS => ?_)
  have hX2 := IsX_rec (n := n) hX hA
  refine lv_aload_n hx hb dX3_send_21 rfl (lv_at hl 1 rfl) ?_
  refine mr_getr (r := p) (TT := TX3) (N := 7) C0 uX3_send_X3 hM hX2.1.1 hX2.1.2 rfl 0 (by decide) rfl kX3_send_f10 rfl dX3_send_22 ?_
  refine mr_getr (r := p + 3) (TT := TX2) (N := 10) C0 uX3_send_X2 hM hX2.2.1.1.1 hX2.2.1.1.2 rfl 3 (by decide) rfl kX3_send_f65 rfl dX3_send_25 ?_
  refine lv_iload_n hx hb dX3_send_28 rfl (lv_at hl 0 rfl) ?_
  refine mr_aald (t := 0) (C := RX0) (r := p + 4 + 5 * s0) C0 hM hX2.2.1.2.2.2.1.1 hX2.2.1.2.2.2.1.2 rfl (by decide) (by omega) rfl dX3_send_29 ?_
  refine lv_iconst (v := nI 0) hx hb dX3_send_30 (by decide) ?_
  have hw2 := (WfS_rec (n := n) hA hW).1 s0 (by omega)
  have hw2b := hw2.2
  refine mr_callV (As := [.int (nI 0)]) C0 (ctX0_numberAt_t (I := (recI I x p n hs c ec lc)) (J := J) (a := (p + 4 + 5 * s0)) (k := 0) (hX2.2.1.2.2.2.2.1 _ (by omega)) hw2.1 (by omega) (by omega) (by omega)) (cwV 1 C0.1.2.2.2.2 gX3_send_X0_numberAt rfl rfl rfl (by decide +kernel) (by rw [hR]; exact ⟨Nat.le_of_ble_eq_true rfl, Nat.le_of_ble_eq_true rfl⟩)) hM (hX2.2.1.2.2.2.2.1 _ (by omega)).1.1 (hX2.2.1.2.2.2.2.1 _ (by omega)).1.2 rfl rfl hM hS rfl rfl rfl hl.1 (Nat.le_of_ble_eq_true rfl) dX3_send_31 (by rw [hR]; exact ⟨Nat.zero_le _, Nat.zero_le _⟩) (fun H locs hM hS => ?_)
  refine lv_istore_n (lv' := [(2, .int ((recI I x p n hs c ec lc) ((p + 4 + 5 * s0) + 1) 0)), (1, .int (nI s0)), (0, .ref x)]) hx hb dX3_send_34 rfl hl (by decide) rfl (fun ls hl => ?_)
  refine lv_aload_n hx hb dX3_send_35 rfl (lv_at hl 2 rfl) ?_
  refine mr_getr (r := p) (TT := TX3) (N := 7) C0 uX3_send_X3 hM hX2.1.1 hX2.1.2 rfl 0 (by decide) rfl kX3_send_f10 rfl dX3_send_36 ?_
  refine lv_iload_n hx hb dX3_send_39 rfl (lv_at hl 1 rfl) ?_
  refine mr_callV (As := [.int (nI s0)]) C0 (ctX2_sendFirst_t (I := (recI I x p n hs c ec lc)) (J := J) (q := p) (s0 := s0) hX2.2.1 (WfS_rec (n := n) hA hW) (by omega) (by omega)) (cwV 1 C0.1.2.2.2.2 gX3_send_X2_sendFirst rfl rfl rfl (by decide +kernel) (by rw [hR]; exact ⟨Nat.le_of_ble_eq_true rfl, Nat.le_of_ble_eq_true rfl⟩)) hM hX2.2.1.1.1 hX2.2.1.1.2 rfl rfl hM hS rfl rfl rfl hl.1 (Nat.le_of_ble_eq_true rfl) dX3_send_40 (by rw [hR]; exact ⟨Nat.zero_le _, Nat.zero_le _⟩) (fun H locs hM hS => ?_)
  refine lv_iload_n hx hb dX3_send_43 rfl (lv_at hl 0 rfl) ?_
  have eF : ((recI I x p n hs c ec lc) ((p + 4 + 5 * s0) + 1) 0, fX2_sendFirst_t (recI I x p n hs c ec lc) p c lc s0) = fX3_send_t I x p n hs c ec lc s0 := rfl
  exact mr_iret (v := (recI I x p n hs c ec lc) ((p + 4 + 5 * s0) + 1) 0) C0 hr hlk hQ hS (by rw [← eF]) (by rw [← eF]; exact hM) (Nat.le_refl _) (Nat.le_refl _) dX3_send_44
set_option maxHeartbeats 4000000 in
set_option maxRecDepth 100000 in
theorem ctX3_undo_0 {l : Launch} {D : va_G} {T : Nat → ClassId} {L : List Nat} {A : Nat → Prop} {Sh : hm_S} {I : hm_I} {J : hm_J} {x p f h m k j : Nat} {hs im : Nat → Nat} (hX : IsX L Sh x p f h m k j hs im) (hA : ApX x p f h m k j hs im) (hn : I x 3 = nI 0) :
    Ct l yX3_undo wsX3_undo { frames := 0, cells := 0, slots := 0, locals := 0 } 0 0 D T A [.ref x] (hm D T L A Sh I J) (some (.int (-2))) (hm D T L A Sh I J) := by
  refine Ct.ofW (cc := cX3_undo) (maxL := 2) (ret := (some .int)) (by decide) rfl (Nat.le_of_ble_eq_true rfl) ?_
  intro p_ e_ s_ m_ args_ below_ meth_ c_ ls R Qq hR hQ C0 hr hlk hname hM hl
  have hx := C0.1.1
  have hb := C0.1.2.1
  have hS : va_S A s_.heap s_.heap [] := va_S.rf
  have hl : lv_has ls 2 [(0, .ref x)] := hl
  refine lv_aload_n hx hb dX3_undo_0 rfl (lv_at hl 0 rfl) ?_
  refine mr_geti (v := nI 0) (TT := TX3) (N := 7) C0 uX3_undo_X3 hM hX.1.1 hX.1.2 rfl 3 (by decide) rfl hn kX3_undo_f23 rfl dX3_undo_1 ?_
  refine lv_if_gt (x := nI 0) (tgt := 10) hx hb dX3_undo_4 (by decide) (fun c1 => absurd c1 (by decide)) (fun _ => ?_)
  refine lv_bipush (v := (-2)) hx hb dX3_undo_7 (by decide) ?_
  skip
  exact mr_iret (v := (-2)) C0 hr hlk hQ hS rfl hM (Nat.le_refl _) (Nat.le_refl _) dX3_undo_9
def fX3_undo_t (I : hm_I) (x n : Nat) : Int32 × hm_I :=
  (nI n, hm_put I x 3 (nI n))
set_option maxHeartbeats 4000000 in
set_option maxRecDepth 100000 in
theorem ctX3_undo_t {l : Launch} {D : va_G} {T : Nat → ClassId} {L : List Nat} {A : Nat → Prop} {Sh : hm_S} {I : hm_I} {J : hm_J} {x p f h m k j : Nat} {hs im : Nat → Nat} (hX : IsX L Sh x p f h m k j hs im) (hA : ApX x p f h m k j hs im) {n : Nat} (hn : I x 3 = nI (n + 1)) (hn8 : n < 8) :
    Ct l yX3_undo wsX3_undo { frames := 0, cells := 0, slots := 0, locals := 0 } 0 0 D T A [.ref x] (hm D T L A Sh I J) (some (.int ((fX3_undo_t I x n).1))) (hm D T L A (va_up (va_up Sh x (kO 3 [some (some (hs n)), some (some f), some (some h), none, some (some m), some (some k), some (some j)])) h (kR 2 8 (va_up (fun i => some (hs i)) n (some p)))) ((fX3_undo_t I x n).2) J) := by
  refine Ct.ofW (cc := cX3_undo) (maxL := 2) (ret := (some .int)) (by decide) rfl (Nat.le_of_ble_eq_true rfl) ?_
  intro p_ e_ s_ m_ args_ below_ meth_ c_ ls R Qq hR hQ C0 hr hlk hname hM hl
  have hx := C0.1.1
  have hb := C0.1.2.1
  have hS : va_S A s_.heap s_.heap [] := va_S.rf
  have hl : lv_has ls 2 [(0, .ref x)] := hl
  have hxh : x ≠ h := hA.1.1
  have ho1 : h < p ∨ p + 83 ≤ h := (hA.2.1 h (Or.inr (Or.inl rfl))).1
  have ho2 : x < p ∨ p + 83 ≤ x := (hA.2.1 x (Or.inl rfl)).1
  refine lv_aload_n hx hb dX3_undo_0 rfl (lv_at hl 0 rfl) ?_
  refine mr_geti (v := nI (n + 1)) (TT := TX3) (N := 7) C0 uX3_undo_X3 hM hX.1.1 hX.1.2 rfl 3 (by decide) rfl hn kX3_undo_f23 rfl dX3_undo_1 ?_
  refine mr_gt0N (x := n + 1) (tgt := 10) C0 dX3_undo_4 (by decide) (by omega) (fun c1 => ?_) (fun c1 => absurd c1 (by omega))
  refine lv_aload_n hx hb dX3_undo_10 rfl (lv_at hl 0 rfl) ?_
  refine lv_dup hx hb dX3_undo_11 rfl ?_
  refine mr_geti (v := nI (n + 1)) (TT := TX3) (N := 7) C0 uX3_undo_X3 hM hX.1.1 hX.1.2 rfl 3 (by decide) rfl hn kX3_undo_f23 rfl dX3_undo_12 ?_
  refine lv_iconst (v := nI 1) hx hb dX3_undo_15 (by decide) ?_
  refine mr_isubN (z := n) C0 (by omega) dX3_undo_16 ?_
  refine mr_puti (TT := TX3) (N := 7) C0 uX3_undo_X3 tyX3 tyX3_ok nmX3 hM hS hX.1.1 hX.1.2 rfl 3 (by decide) rfl kX3_undo_f23 rfl rfl (by decide +kernel) dX3_undo_17 (fun H locs hM hS => ?_)
  refine lv_aload_n hx hb dX3_undo_20 rfl (lv_at hl 0 rfl) ?_
  refine mr_getr (r := p) (TT := TX3) (N := 7) C0 uX3_undo_X3 hM hX.1.1 hX.1.2 rfl 0 (by decide) rfl kX3_undo_f10 rfl dX3_undo_21 ?_
  refine lv_astore_n (lv' := [(1, .ref p), (0, .ref x)]) hx hb dX3_undo_24 rfl hl (by decide) rfl (fun ls hl => ?_)
  refine lv_aload_n hx hb dX3_undo_25 rfl (lv_at hl 1 rfl) ?_
  refine lv_aload_n hx hb dX3_undo_26 rfl (lv_at hl 1 rfl) ?_
  refine mr_getr (r := h) (TT := TX3) (N := 7) C0 uX3_undo_X3 hM hX.1.1 hX.1.2 rfl 2 (by decide) rfl kX3_undo_f19 rfl dX3_undo_27 ?_
  refine lv_aload_n hx hb dX3_undo_30 rfl (lv_at hl 1 rfl) ?_
  refine mr_geti (v := nI n) (TT := TX3) (N := 7) C0 uX3_undo_X3 hM hX.1.1 hX.1.2 rfl 3 (by decide) rfl (hm_put_at _ _ _ _) kX3_undo_f23 rfl dX3_undo_31 ?_
  refine mr_aald (t := 2) (C := RX2) (r := hs n) C0 hM hX.2.2.2.1.1 hX.2.2.2.1.2 rfl (by decide) (by omega) rfl dX3_undo_34 ?_
  refine mr_putr (F := "StreamMultiplexer$State") (TT := TX3) (N := 7) C0 uX3_undo_X3 tyX3 tyX3_ok nmX3 hM hS hX.1.1 hX.1.2 rfl 0 (by decide) rfl kX3_undo_f10 rfl rfl (by decide +kernel) dX3_undo_35 (fun H locs hM hS => ?_)
  refine lv_aload_n hx hb dX3_undo_38 rfl (lv_at hl 1 rfl) ?_
  refine mr_getr (r := h) (TT := TX3) (N := 7) C0 uX3_undo_X3 hM hX.1.1 (va_up_self _ _ _) rfl 2 (by decide) rfl kX3_undo_f19 rfl dX3_undo_39 ?_
  refine lv_aload_n hx hb dX3_undo_42 rfl (lv_at hl 1 rfl) ?_
  refine mr_geti (v := nI n) (TT := TX3) (N := 7) C0 uX3_undo_X3 hM hX.1.1 (va_up_self _ _ _) rfl 3 (by decide) rfl (hm_put_at _ _ _ _) kX3_undo_f23 rfl dX3_undo_43 ?_
  refine lv_aload_n hx hb dX3_undo_46 rfl (lv_at hl 0 rfl) ?_
  refine mr_aast (r := (RX2, TX2, 10)) C0 hM hS hX.2.2.2.1.1 (((va_up_ne _ _ (by omega)).trans (hX.2.2.2.1.2))) rfl hX.2.1.1.1 (((va_up_ne _ _ (by omega)).trans (hX.2.1.1.2))) rfl (by decide) (by omega) dX3_undo_47 (fun H locs hM hS => ?_)
  refine lv_aload_n hx hb dX3_undo_48 rfl (lv_at hl 1 rfl) ?_
  refine mr_geti (v := nI n) (TT := TX3) (N := 7) C0 uX3_undo_X3 hM hX.1.1 (((va_up_ne _ _ (by omega)).trans (va_up_self _ _ _))) rfl 3 (by decide) rfl (hm_put_at _ _ _ _) kX3_undo_f23 rfl dX3_undo_49 ?_
  have eF : (nI n, hm_put I x 3 (nI n)) = fX3_undo_t I x n := rfl
  exact mr_iret (v := nI n) C0 hr hlk hQ hS (by rw [← eF]) (by rw [← eF]; exact hM) (Nat.le_refl _) (Nat.le_refl _) dX3_undo_52
set_option maxHeartbeats 4000000 in
set_option maxRecDepth 100000 in
theorem ctX3_told_b {l : Launch} {D : va_G} {T : Nat → ClassId} {L : List Nat} {A : Nat → Prop} {Sh : hm_S} {I : hm_I} {J : hm_J} {x p f h m k j : Nat} {hs im : Nat → Nat} (hX : IsX L Sh x p f h m k j hs im) {w0 : Int32} (hb0 : fX3_isWithin w0 (nI 0) (nI 11) = false) :
    Ct l yX3_told wsX3_told { frames := 1, cells := 0, slots := 0, locals := 22 } 0 0 D T A [.ref x, .int w0] (hm D T L A Sh I J) (some (.int (-1))) (hm D T L A Sh I J) := by
  refine Ct.ofW (cc := cX3_told) (maxL := 2) (ret := (some .int)) (by decide) rfl (Nat.le_of_ble_eq_true rfl) ?_
  intro p_ e_ s_ m_ args_ below_ meth_ c_ ls R Qq hR hQ C0 hr hlk hname hM hl
  have hx := C0.1.1
  have hb := C0.1.2.1
  have hS : va_S A s_.heap s_.heap [] := va_S.rf
  have hl : lv_has ls 2 [(0, .ref x), (1, .int w0)] := hl
  refine lv_iload_n hx hb dX3_told_0 rfl (lv_at hl 1 rfl) ?_
  refine lv_iconst (v := nI 0) hx hb dX3_told_1 (by decide) ?_
  refine lv_bipush (v := nI 11) hx hb dX3_told_2 (by decide) ?_
  refine mr_callS (As := [.int w0, .int (nI 0), .int (nI 11)]) C0 (ctX3_isWithin (I := I) (J := J) (v := w0) (lo := (nI 0)) (up := (nI 11)) ) (va_cwS 3 C0.1.2.2.2.2 gX3_told_X3_isWithin rfl rfl rfl (by decide +kernel) (by rw [hR]; exact ⟨Nat.le_of_ble_eq_true rfl, Nat.le_of_ble_eq_true rfl⟩)) hM hS rfl rfl rfl hl.1 (Nat.le_of_ble_eq_true rfl) dX3_told_4 (by rw [hR]; exact ⟨Nat.zero_le _, Nat.zero_le _⟩) (fun H locs hM hS => ?_)
  refine mr_neB (tgt := 12) C0 dX3_told_7 (by decide) (fun c1 => absurd c1 (by rw [hb0]; decide)) (fun c1 => ?_)
  refine lv_iconst (v := (-1)) hx hb dX3_told_10 (by decide) ?_
  skip
  exact mr_iret (v := (-1)) C0 hr hlk hQ hS rfl hM (Nat.le_refl _) (Nat.le_refl _) dX3_told_11
set_option maxHeartbeats 4000000 in
set_option maxRecDepth 100000 in
theorem ctX3_told_0 {l : Launch} {D : va_G} {T : Nat → ClassId} {L : List Nat} {A : Nat → Prop} {Sh : hm_S} {I : hm_I} {J : hm_J} {x p f h m k j : Nat} {hs im : Nat → Nat} (hX : IsX L Sh x p f h m k j hs im) (hA : ApX x p f h m k j hs im) {c : Nat → Nat} {e : Nat → Nat → Nat} {ec lc : Nat} (hW : WfS I p c e ec lc) {n : Nat} (hn : I x 3 = nI n) (hn8 : n ≤ 8) :
    Ct l yX3_told wsX3_told { frames := 1, cells := 0, slots := 0, locals := 22 } 0 0 D T A [.ref x, .int (nI 0)] (hm D T L A Sh I J) (some (.int (fJ6_bitCount_0f7a4 (I p 0)))) (hm D T L A Sh I J) := by
  refine Ct.ofW (cc := cX3_told) (maxL := 2) (ret := (some .int)) (by decide) rfl (Nat.le_of_ble_eq_true rfl) ?_
  intro p_ e_ s_ m_ args_ below_ meth_ c_ ls R Qq hR hQ C0 hr hlk hname hM hl
  have hx := C0.1.1
  have hb := C0.1.2.1
  have hS : va_S A s_.heap s_.heap [] := va_S.rf
  have hl : lv_has ls 2 [(0, .ref x), (1, .int (nI 0))] := hl
  have hec10 := hW.2.2.2.2.1
  have hec1 := hW.2.2.2.1
  refine lv_iload_n hx hb dX3_told_0 rfl (lv_at hl 1 rfl) ?_
  refine lv_iconst (v := nI 0) hx hb dX3_told_1 (by decide) ?_
  refine lv_bipush (v := nI 11) hx hb dX3_told_2 (by decide) ?_
  refine mr_callS (As := [.int (nI 0), .int (nI 0), .int (nI 11)]) C0 (ctX3_isWithin (I := I) (J := J) (v := (nI 0)) (lo := (nI 0)) (up := (nI 11)) ) (va_cwS 3 C0.1.2.2.2.2 gX3_told_X3_isWithin rfl rfl rfl (by decide +kernel) (by rw [hR]; exact ⟨Nat.le_of_ble_eq_true rfl, Nat.le_of_ble_eq_true rfl⟩)) hM hS rfl rfl rfl hl.1 (Nat.le_of_ble_eq_true rfl) dX3_told_4 (by rw [hR]; exact ⟨Nat.zero_le _, Nat.zero_le _⟩) (fun H locs hM hS => ?_)
  refine mr_neB (tgt := 12) C0 dX3_told_7 (by decide) (fun c1 => ?_) (fun c1 => absurd c1 (by decide))
  refine lv_iload_n hx hb dX3_told_12 rfl (lv_at hl 1 rfl) ?_
  refine lv_tableIn (off := 59) (tgt := 72) hx hb dX3_told_13 (by decide) (by decide) (by decide) (by decide) ?_
  refine lv_aload_n hx hb dX3_told_72 rfl (lv_at hl 0 rfl) ?_
  refine mr_getr (r := p) (TT := TX3) (N := 7) C0 uX3_told_X3 hM hX.1.1 hX.1.2 rfl 0 (by decide) rfl kX3_told_f10 rfl dX3_told_73 ?_
  refine mr_geti (v := I p 0) (TT := TX2) (N := 10) C0 uX3_told_X2 hM hX.2.1.1.1 hX.2.1.1.2 rfl 0 (by decide) rfl rfl kX3_told_f56 rfl dX3_told_76 ?_
  refine mr_callS (As := [.int (I p 0)]) C0 (ctJ6_bitCount_0f7a4 (I := I) (J := J) (u0 := (I p 0)) ) (va_cwS 1 C0.1.2.2.2.2 gX3_told_J6_bitCount_0f7a4 rfl rfl rfl (by decide +kernel) (by rw [hR]; exact ⟨Nat.le_of_ble_eq_true rfl, Nat.le_of_ble_eq_true rfl⟩)) hM hS rfl rfl rfl hl.1 (Nat.le_of_ble_eq_true rfl) dX3_told_79 (by rw [hR]; exact ⟨Nat.zero_le _, Nat.zero_le _⟩) (fun H locs hM hS => ?_)
  skip
  exact mr_iret (v := fJ6_bitCount_0f7a4 (I p 0)) C0 hr hlk hQ hS rfl hM (Nat.le_refl _) (Nat.le_refl _) dX3_told_82
set_option maxHeartbeats 4000000 in
set_option maxRecDepth 100000 in
theorem ctX3_told_1 {l : Launch} {D : va_G} {T : Nat → ClassId} {L : List Nat} {A : Nat → Prop} {Sh : hm_S} {I : hm_I} {J : hm_J} {x p f h m k j : Nat} {hs im : Nat → Nat} (hX : IsX L Sh x p f h m k j hs im) (hA : ApX x p f h m k j hs im) {c : Nat → Nat} {e : Nat → Nat → Nat} {ec lc : Nat} (hW : WfS I p c e ec lc) {n : Nat} (hn : I x 3 = nI n) (hn8 : n ≤ 8) :
    Ct l yX3_told wsX3_told { frames := 1, cells := 0, slots := 0, locals := 22 } 0 0 D T A [.ref x, .int (nI 1)] (hm D T L A Sh I J) (some (.int (fX2_waitingCount c))) (hm D T L A Sh I J) := by
  refine Ct.ofW (cc := cX3_told) (maxL := 2) (ret := (some .int)) (by decide) rfl (Nat.le_of_ble_eq_true rfl) ?_
  intro p_ e_ s_ m_ args_ below_ meth_ c_ ls R Qq hR hQ C0 hr hlk hname hM hl
  have hx := C0.1.1
  have hb := C0.1.2.1
  have hS : va_S A s_.heap s_.heap [] := va_S.rf
  have hl : lv_has ls 2 [(0, .ref x), (1, .int (nI 1))] := hl
  have hec10 := hW.2.2.2.2.1
  have hec1 := hW.2.2.2.1
  refine lv_iload_n hx hb dX3_told_0 rfl (lv_at hl 1 rfl) ?_
  refine lv_iconst (v := nI 0) hx hb dX3_told_1 (by decide) ?_
  refine lv_bipush (v := nI 11) hx hb dX3_told_2 (by decide) ?_
  refine mr_callS (As := [.int (nI 1), .int (nI 0), .int (nI 11)]) C0 (ctX3_isWithin (I := I) (J := J) (v := (nI 1)) (lo := (nI 0)) (up := (nI 11)) ) (va_cwS 3 C0.1.2.2.2.2 gX3_told_X3_isWithin rfl rfl rfl (by decide +kernel) (by rw [hR]; exact ⟨Nat.le_of_ble_eq_true rfl, Nat.le_of_ble_eq_true rfl⟩)) hM hS rfl rfl rfl hl.1 (Nat.le_of_ble_eq_true rfl) dX3_told_4 (by rw [hR]; exact ⟨Nat.zero_le _, Nat.zero_le _⟩) (fun H locs hM hS => ?_)
  refine mr_neB (tgt := 12) C0 dX3_told_7 (by decide) (fun c1 => ?_) (fun c1 => absurd c1 (by decide))
  refine lv_iload_n hx hb dX3_told_12 rfl (lv_at hl 1 rfl) ?_
  refine lv_tableIn (off := 70) (tgt := 83) hx hb dX3_told_13 (by decide) (by decide) (by decide) (by decide) ?_
  refine lv_aload_n hx hb dX3_told_83 rfl (lv_at hl 0 rfl) ?_
  refine mr_getr (r := p) (TT := TX3) (N := 7) C0 uX3_told_X3 hM hX.1.1 hX.1.2 rfl 0 (by decide) rfl kX3_told_f10 rfl dX3_told_84 ?_
  refine mr_callV (As := []) C0 (ctX2_waitingCount (I := I) (J := J) (q := p) hX.2.1 hW) (cwV 0 C0.1.2.2.2.2 gX3_told_X2_waitingCount rfl rfl rfl (by decide +kernel) (by rw [hR]; exact ⟨Nat.le_of_ble_eq_true rfl, Nat.le_of_ble_eq_true rfl⟩)) hM hX.2.1.1.1 hX.2.1.1.2 rfl rfl hM hS rfl rfl rfl hl.1 (Nat.le_of_ble_eq_true rfl) dX3_told_87 (by rw [hR]; exact ⟨Nat.zero_le _, Nat.zero_le _⟩) (fun H locs hM hS => ?_)
  skip
  exact mr_iret (v := fX2_waitingCount c) C0 hr hlk hQ hS rfl hM (Nat.le_refl _) (Nat.le_refl _) dX3_told_90
set_option maxHeartbeats 4000000 in
set_option maxRecDepth 100000 in
theorem ctX3_told_2 {l : Launch} {D : va_G} {T : Nat → ClassId} {L : List Nat} {A : Nat → Prop} {Sh : hm_S} {I : hm_I} {J : hm_J} {x p f h m k j : Nat} {hs im : Nat → Nat} (hX : IsX L Sh x p f h m k j hs im) (hA : ApX x p f h m k j hs im) {c : Nat → Nat} {e : Nat → Nat → Nat} {ec lc : Nat} (hW : WfS I p c e ec lc) {n : Nat} (hn : I x 3 = nI n) (hn8 : n ≤ 8) :
    Ct l yX3_told wsX3_told { frames := 1, cells := 0, slots := 0, locals := 22 } 0 0 D T A [.ref x, .int (nI 2)] (hm D T L A Sh I J) (some (.int (I p 7))) (hm D T L A Sh I J) := by
  refine Ct.ofW (cc := cX3_told) (maxL := 2) (ret := (some .int)) (by decide) rfl (Nat.le_of_ble_eq_true rfl) ?_
  intro p_ e_ s_ m_ args_ below_ meth_ c_ ls R Qq hR hQ C0 hr hlk hname hM hl
  have hx := C0.1.1
  have hb := C0.1.2.1
  have hS : va_S A s_.heap s_.heap [] := va_S.rf
  have hl : lv_has ls 2 [(0, .ref x), (1, .int (nI 2))] := hl
  have hec10 := hW.2.2.2.2.1
  have hec1 := hW.2.2.2.1
  refine lv_iload_n hx hb dX3_told_0 rfl (lv_at hl 1 rfl) ?_
  refine lv_iconst (v := nI 0) hx hb dX3_told_1 (by decide) ?_
  refine lv_bipush (v := nI 11) hx hb dX3_told_2 (by decide) ?_
  refine mr_callS (As := [.int (nI 2), .int (nI 0), .int (nI 11)]) C0 (ctX3_isWithin (I := I) (J := J) (v := (nI 2)) (lo := (nI 0)) (up := (nI 11)) ) (va_cwS 3 C0.1.2.2.2.2 gX3_told_X3_isWithin rfl rfl rfl (by decide +kernel) (by rw [hR]; exact ⟨Nat.le_of_ble_eq_true rfl, Nat.le_of_ble_eq_true rfl⟩)) hM hS rfl rfl rfl hl.1 (Nat.le_of_ble_eq_true rfl) dX3_told_4 (by rw [hR]; exact ⟨Nat.zero_le _, Nat.zero_le _⟩) (fun H locs hM hS => ?_)
  refine mr_neB (tgt := 12) C0 dX3_told_7 (by decide) (fun c1 => ?_) (fun c1 => absurd c1 (by decide))
  refine lv_iload_n hx hb dX3_told_12 rfl (lv_at hl 1 rfl) ?_
  refine lv_tableIn (off := 78) (tgt := 91) hx hb dX3_told_13 (by decide) (by decide) (by decide) (by decide) ?_
  refine lv_aload_n hx hb dX3_told_91 rfl (lv_at hl 0 rfl) ?_
  refine mr_getr (r := p) (TT := TX3) (N := 7) C0 uX3_told_X3 hM hX.1.1 hX.1.2 rfl 0 (by decide) rfl kX3_told_f10 rfl dX3_told_92 ?_
  refine mr_geti (v := I p 7) (TT := TX2) (N := 10) C0 uX3_told_X2 hM hX.2.1.1.1 hX.2.1.1.2 rfl 7 (by decide) rfl rfl kX3_told_f159 rfl dX3_told_95 ?_
  skip
  exact mr_iret (v := I p 7) C0 hr hlk hQ hS rfl hM (Nat.le_refl _) (Nat.le_refl _) dX3_told_98
set_option maxHeartbeats 4000000 in
set_option maxRecDepth 100000 in
theorem ctX3_told_3 {l : Launch} {D : va_G} {T : Nat → ClassId} {L : List Nat} {A : Nat → Prop} {Sh : hm_S} {I : hm_I} {J : hm_J} {x p f h m k j : Nat} {hs im : Nat → Nat} (hX : IsX L Sh x p f h m k j hs im) (hA : ApX x p f h m k j hs im) {c : Nat → Nat} {e : Nat → Nat → Nat} {ec lc : Nat} (hW : WfS I p c e ec lc) {n : Nat} (hn : I x 3 = nI n) (hn8 : n ≤ 8) :
    Ct l yX3_told wsX3_told { frames := 1, cells := 0, slots := 0, locals := 22 } 0 0 D T A [.ref x, .int (nI 3)] (hm D T L A Sh I J) (some (.int (I p 8))) (hm D T L A Sh I J) := by
  refine Ct.ofW (cc := cX3_told) (maxL := 2) (ret := (some .int)) (by decide) rfl (Nat.le_of_ble_eq_true rfl) ?_
  intro p_ e_ s_ m_ args_ below_ meth_ c_ ls R Qq hR hQ C0 hr hlk hname hM hl
  have hx := C0.1.1
  have hb := C0.1.2.1
  have hS : va_S A s_.heap s_.heap [] := va_S.rf
  have hl : lv_has ls 2 [(0, .ref x), (1, .int (nI 3))] := hl
  have hec10 := hW.2.2.2.2.1
  have hec1 := hW.2.2.2.1
  refine lv_iload_n hx hb dX3_told_0 rfl (lv_at hl 1 rfl) ?_
  refine lv_iconst (v := nI 0) hx hb dX3_told_1 (by decide) ?_
  refine lv_bipush (v := nI 11) hx hb dX3_told_2 (by decide) ?_
  refine mr_callS (As := [.int (nI 3), .int (nI 0), .int (nI 11)]) C0 (ctX3_isWithin (I := I) (J := J) (v := (nI 3)) (lo := (nI 0)) (up := (nI 11)) ) (va_cwS 3 C0.1.2.2.2.2 gX3_told_X3_isWithin rfl rfl rfl (by decide +kernel) (by rw [hR]; exact ⟨Nat.le_of_ble_eq_true rfl, Nat.le_of_ble_eq_true rfl⟩)) hM hS rfl rfl rfl hl.1 (Nat.le_of_ble_eq_true rfl) dX3_told_4 (by rw [hR]; exact ⟨Nat.zero_le _, Nat.zero_le _⟩) (fun H locs hM hS => ?_)
  refine mr_neB (tgt := 12) C0 dX3_told_7 (by decide) (fun c1 => ?_) (fun c1 => absurd c1 (by decide))
  refine lv_iload_n hx hb dX3_told_12 rfl (lv_at hl 1 rfl) ?_
  refine lv_tableIn (off := 86) (tgt := 99) hx hb dX3_told_13 (by decide) (by decide) (by decide) (by decide) ?_
  refine lv_aload_n hx hb dX3_told_99 rfl (lv_at hl 0 rfl) ?_
  refine mr_getr (r := p) (TT := TX3) (N := 7) C0 uX3_told_X3 hM hX.1.1 hX.1.2 rfl 0 (by decide) rfl kX3_told_f10 rfl dX3_told_100 ?_
  refine mr_geti (v := I p 8) (TT := TX2) (N := 10) C0 uX3_told_X2 hM hX.2.1.1.1 hX.2.1.1.2 rfl 8 (by decide) rfl rfl kX3_told_f162 rfl dX3_told_103 ?_
  skip
  exact mr_iret (v := I p 8) C0 hr hlk hQ hS rfl hM (Nat.le_refl _) (Nat.le_refl _) dX3_told_106
set_option maxHeartbeats 4000000 in
set_option maxRecDepth 100000 in
theorem ctX3_told_4 {l : Launch} {D : va_G} {T : Nat → ClassId} {L : List Nat} {A : Nat → Prop} {Sh : hm_S} {I : hm_I} {J : hm_J} {x p f h m k j : Nat} {hs im : Nat → Nat} (hX : IsX L Sh x p f h m k j hs im) (hA : ApX x p f h m k j hs im) {c : Nat → Nat} {e : Nat → Nat → Nat} {ec lc : Nat} (hW : WfS I p c e ec lc) {n : Nat} (hn : I x 3 = nI n) (hn8 : n ≤ 8) :
    Ct l yX3_told wsX3_told { frames := 2, cells := 0, slots := 0, locals := 44 } 0 0 D T A [.ref x, .int (nI 4)] (hm D T L A Sh I J) (some (.int (fX2_waitingSize I p c))) (hm D T L A Sh I J) := by
  refine Ct.ofW (cc := cX3_told) (maxL := 2) (ret := (some .int)) (by decide) rfl (Nat.le_of_ble_eq_true rfl) ?_
  intro p_ e_ s_ m_ args_ below_ meth_ c_ ls R Qq hR hQ C0 hr hlk hname hM hl
  have hx := C0.1.1
  have hb := C0.1.2.1
  have hS : va_S A s_.heap s_.heap [] := va_S.rf
  have hl : lv_has ls 2 [(0, .ref x), (1, .int (nI 4))] := hl
  have hec10 := hW.2.2.2.2.1
  have hec1 := hW.2.2.2.1
  refine lv_iload_n hx hb dX3_told_0 rfl (lv_at hl 1 rfl) ?_
  refine lv_iconst (v := nI 0) hx hb dX3_told_1 (by decide) ?_
  refine lv_bipush (v := nI 11) hx hb dX3_told_2 (by decide) ?_
  refine mr_callS (As := [.int (nI 4), .int (nI 0), .int (nI 11)]) C0 (ctX3_isWithin (I := I) (J := J) (v := (nI 4)) (lo := (nI 0)) (up := (nI 11)) ) (va_cwS 3 C0.1.2.2.2.2 gX3_told_X3_isWithin rfl rfl rfl (by decide +kernel) (by rw [hR]; exact ⟨Nat.le_of_ble_eq_true rfl, Nat.le_of_ble_eq_true rfl⟩)) hM hS rfl rfl rfl hl.1 (Nat.le_of_ble_eq_true rfl) dX3_told_4 (by rw [hR]; exact ⟨Nat.zero_le _, Nat.zero_le _⟩) (fun H locs hM hS => ?_)
  refine mr_neB (tgt := 12) C0 dX3_told_7 (by decide) (fun c1 => ?_) (fun c1 => absurd c1 (by decide))
  refine lv_iload_n hx hb dX3_told_12 rfl (lv_at hl 1 rfl) ?_
  refine lv_tableIn (off := 94) (tgt := 107) hx hb dX3_told_13 (by decide) (by decide) (by decide) (by decide) ?_
  refine lv_aload_n hx hb dX3_told_107 rfl (lv_at hl 0 rfl) ?_
  refine mr_getr (r := p) (TT := TX3) (N := 7) C0 uX3_told_X3 hM hX.1.1 hX.1.2 rfl 0 (by decide) rfl kX3_told_f10 rfl dX3_told_108 ?_
  refine mr_callV (As := []) C0 (ctX2_waitingSize (I := I) (J := J) (q := p) hX.2.1 hW) (cwV 0 C0.1.2.2.2.2 gX3_told_X2_waitingSize rfl rfl rfl (by decide +kernel) (by rw [hR]; exact ⟨Nat.le_of_ble_eq_true rfl, Nat.le_of_ble_eq_true rfl⟩)) hM hX.2.1.1.1 hX.2.1.1.2 rfl rfl hM hS rfl rfl rfl hl.1 (Nat.le_of_ble_eq_true rfl) dX3_told_111 (by rw [hR]; exact ⟨Nat.zero_le _, Nat.zero_le _⟩) (fun H locs hM hS => ?_)
  skip
  exact mr_iret (v := fX2_waitingSize I p c) C0 hr hlk hQ hS rfl hM (Nat.le_refl _) (Nat.le_refl _) dX3_told_114
set_option maxHeartbeats 4000000 in
set_option maxRecDepth 100000 in
theorem ctX3_told_5 {l : Launch} {D : va_G} {T : Nat → ClassId} {L : List Nat} {A : Nat → Prop} {Sh : hm_S} {I : hm_I} {J : hm_J} {x p f h m k j : Nat} {hs im : Nat → Nat} (hX : IsX L Sh x p f h m k j hs im) (hA : ApX x p f h m k j hs im) {c : Nat → Nat} {e : Nat → Nat → Nat} {ec lc : Nat} (hW : WfS I p c e ec lc) {n : Nat} (hn : I x 3 = nI n) (hn8 : n ≤ 8) :
    Ct l yX3_told wsX3_told { frames := 1, cells := 0, slots := 0, locals := 22 } 0 0 D T A [.ref x, .int (nI 5)] (hm D T L A Sh I J) (some (.int (nI (ec - 1)))) (hm D T L A Sh I J) := by
  refine Ct.ofW (cc := cX3_told) (maxL := 2) (ret := (some .int)) (by decide) rfl (Nat.le_of_ble_eq_true rfl) ?_
  intro p_ e_ s_ m_ args_ below_ meth_ c_ ls R Qq hR hQ C0 hr hlk hname hM hl
  have hx := C0.1.1
  have hb := C0.1.2.1
  have hS : va_S A s_.heap s_.heap [] := va_S.rf
  have hl : lv_has ls 2 [(0, .ref x), (1, .int (nI 5))] := hl
  have hec10 := hW.2.2.2.2.1
  have hec1 := hW.2.2.2.1
  refine lv_iload_n hx hb dX3_told_0 rfl (lv_at hl 1 rfl) ?_
  refine lv_iconst (v := nI 0) hx hb dX3_told_1 (by decide) ?_
  refine lv_bipush (v := nI 11) hx hb dX3_told_2 (by decide) ?_
  refine mr_callS (As := [.int (nI 5), .int (nI 0), .int (nI 11)]) C0 (ctX3_isWithin (I := I) (J := J) (v := (nI 5)) (lo := (nI 0)) (up := (nI 11)) ) (va_cwS 3 C0.1.2.2.2.2 gX3_told_X3_isWithin rfl rfl rfl (by decide +kernel) (by rw [hR]; exact ⟨Nat.le_of_ble_eq_true rfl, Nat.le_of_ble_eq_true rfl⟩)) hM hS rfl rfl rfl hl.1 (Nat.le_of_ble_eq_true rfl) dX3_told_4 (by rw [hR]; exact ⟨Nat.zero_le _, Nat.zero_le _⟩) (fun H locs hM hS => ?_)
  refine mr_neB (tgt := 12) C0 dX3_told_7 (by decide) (fun c1 => ?_) (fun c1 => absurd c1 (by decide))
  refine lv_iload_n hx hb dX3_told_12 rfl (lv_at hl 1 rfl) ?_
  refine lv_tableIn (off := 102) (tgt := 115) hx hb dX3_told_13 (by decide) (by decide) (by decide) (by decide) ?_
  refine lv_aload_n hx hb dX3_told_115 rfl (lv_at hl 0 rfl) ?_
  refine mr_getr (r := p) (TT := TX3) (N := 7) C0 uX3_told_X3 hM hX.1.1 hX.1.2 rfl 0 (by decide) rfl kX3_told_f10 rfl dX3_told_116 ?_
  refine mr_callV (As := []) C0 (ctX2_currentEpoch (I := I) (J := J) (q := p) hX.2.1 hW) (cwV 0 C0.1.2.2.2.2 gX3_told_X2_currentEpoch rfl rfl rfl (by decide +kernel) (by rw [hR]; exact ⟨Nat.le_of_ble_eq_true rfl, Nat.le_of_ble_eq_true rfl⟩)) hM hX.2.1.1.1 hX.2.1.1.2 rfl rfl hM hS rfl rfl rfl hl.1 (Nat.le_of_ble_eq_true rfl) dX3_told_119 (by rw [hR]; exact ⟨Nat.zero_le _, Nat.zero_le _⟩) (fun H locs hM hS => ?_)
  skip
  exact mr_iret (v := nI (ec - 1)) C0 hr hlk hQ hS rfl hM (Nat.le_refl _) (Nat.le_refl _) dX3_told_122
set_option maxHeartbeats 4000000 in
set_option maxRecDepth 100000 in
theorem ctX3_told_6 {l : Launch} {D : va_G} {T : Nat → ClassId} {L : List Nat} {A : Nat → Prop} {Sh : hm_S} {I : hm_I} {J : hm_J} {x p f h m k j : Nat} {hs im : Nat → Nat} (hX : IsX L Sh x p f h m k j hs im) (hA : ApX x p f h m k j hs im) {c : Nat → Nat} {e : Nat → Nat → Nat} {ec lc : Nat} (hW : WfS I p c e ec lc) {n : Nat} (hn : I x 3 = nI n) (hn8 : n ≤ 8) :
    Ct l yX3_told wsX3_told { frames := 2, cells := 0, slots := 0, locals := 42 } 0 0 D T A [.ref x, .int (nI 6)] (hm D T L A Sh I J) (some (.int (fX1_edgeCount I (p + 44)))) (hm D T L A Sh I J) := by
  refine Ct.ofW (cc := cX3_told) (maxL := 2) (ret := (some .int)) (by decide) rfl (Nat.le_of_ble_eq_true rfl) ?_
  intro p_ e_ s_ m_ args_ below_ meth_ c_ ls R Qq hR hQ C0 hr hlk hname hM hl
  have hx := C0.1.1
  have hb := C0.1.2.1
  have hS : va_S A s_.heap s_.heap [] := va_S.rf
  have hl : lv_has ls 2 [(0, .ref x), (1, .int (nI 6))] := hl
  have hec10 := hW.2.2.2.2.1
  have hec1 := hW.2.2.2.1
  refine lv_iload_n hx hb dX3_told_0 rfl (lv_at hl 1 rfl) ?_
  refine lv_iconst (v := nI 0) hx hb dX3_told_1 (by decide) ?_
  refine lv_bipush (v := nI 11) hx hb dX3_told_2 (by decide) ?_
  refine mr_callS (As := [.int (nI 6), .int (nI 0), .int (nI 11)]) C0 (ctX3_isWithin (I := I) (J := J) (v := (nI 6)) (lo := (nI 0)) (up := (nI 11)) ) (va_cwS 3 C0.1.2.2.2.2 gX3_told_X3_isWithin rfl rfl rfl (by decide +kernel) (by rw [hR]; exact ⟨Nat.le_of_ble_eq_true rfl, Nat.le_of_ble_eq_true rfl⟩)) hM hS rfl rfl rfl hl.1 (Nat.le_of_ble_eq_true rfl) dX3_told_4 (by rw [hR]; exact ⟨Nat.zero_le _, Nat.zero_le _⟩) (fun H locs hM hS => ?_)
  refine mr_neB (tgt := 12) C0 dX3_told_7 (by decide) (fun c1 => ?_) (fun c1 => absurd c1 (by decide))
  refine lv_iload_n hx hb dX3_told_12 rfl (lv_at hl 1 rfl) ?_
  refine lv_tableIn (off := 110) (tgt := 123) hx hb dX3_told_13 (by decide) (by decide) (by decide) (by decide) ?_
  refine lv_aload_n hx hb dX3_told_123 rfl (lv_at hl 0 rfl) ?_
  refine mr_getr (r := p) (TT := TX3) (N := 7) C0 uX3_told_X3 hM hX.1.1 hX.1.2 rfl 0 (by decide) rfl kX3_told_f10 rfl dX3_told_124 ?_
  refine mr_getr (r := p + 44) (TT := TX2) (N := 10) C0 uX3_told_X2 hM hX.2.1.1.1 hX.2.1.1.2 rfl 4 (by decide) rfl kX3_told_f97 rfl dX3_told_127 ?_
  refine mr_callV (As := []) C0 (ctX1_edgeCount (I := I) (J := J) (a := (p + 44)) hX.2.1.2.2.2.2.2.1) (cwV 0 C0.1.2.2.2.2 gX3_told_X1_edgeCount rfl rfl rfl (by decide +kernel) (by rw [hR]; exact ⟨Nat.le_of_ble_eq_true rfl, Nat.le_of_ble_eq_true rfl⟩)) hM hX.2.1.2.2.2.2.2.1.1.1 hX.2.1.2.2.2.2.2.1.1.2 rfl rfl hM hS rfl rfl rfl hl.1 (Nat.le_of_ble_eq_true rfl) dX3_told_130 (by rw [hR]; exact ⟨Nat.zero_le _, Nat.zero_le _⟩) (fun H locs hM hS => ?_)
  skip
  exact mr_iret (v := fX1_edgeCount I (p + 44)) C0 hr hlk hQ hS rfl hM (Nat.le_refl _) (Nat.le_refl _) dX3_told_133
set_option maxHeartbeats 4000000 in
set_option maxRecDepth 100000 in
theorem ctX3_told_7 {l : Launch} {D : va_G} {T : Nat → ClassId} {L : List Nat} {A : Nat → Prop} {Sh : hm_S} {I : hm_I} {J : hm_J} {x p f h m k j : Nat} {hs im : Nat → Nat} (hX : IsX L Sh x p f h m k j hs im) (hA : ApX x p f h m k j hs im) {c : Nat → Nat} {e : Nat → Nat → Nat} {ec lc : Nat} (hW : WfS I p c e ec lc) {n : Nat} (hn : I x 3 = nI n) (hn8 : n ≤ 8) :
    Ct l yX3_told wsX3_told { frames := 5, cells := 0, slots := 0, locals := 111 } 0 0 D T A [.ref x, .int (nI 7)] (hm D T L A Sh I J) (some (.int (fX2_candidateCount I p c e))) (hm D T L A Sh I J) := by
  refine Ct.ofW (cc := cX3_told) (maxL := 2) (ret := (some .int)) (by decide) rfl (Nat.le_of_ble_eq_true rfl) ?_
  intro p_ e_ s_ m_ args_ below_ meth_ c_ ls R Qq hR hQ C0 hr hlk hname hM hl
  have hx := C0.1.1
  have hb := C0.1.2.1
  have hS : va_S A s_.heap s_.heap [] := va_S.rf
  have hl : lv_has ls 2 [(0, .ref x), (1, .int (nI 7))] := hl
  have hec10 := hW.2.2.2.2.1
  have hec1 := hW.2.2.2.1
  refine lv_iload_n hx hb dX3_told_0 rfl (lv_at hl 1 rfl) ?_
  refine lv_iconst (v := nI 0) hx hb dX3_told_1 (by decide) ?_
  refine lv_bipush (v := nI 11) hx hb dX3_told_2 (by decide) ?_
  refine mr_callS (As := [.int (nI 7), .int (nI 0), .int (nI 11)]) C0 (ctX3_isWithin (I := I) (J := J) (v := (nI 7)) (lo := (nI 0)) (up := (nI 11)) ) (va_cwS 3 C0.1.2.2.2.2 gX3_told_X3_isWithin rfl rfl rfl (by decide +kernel) (by rw [hR]; exact ⟨Nat.le_of_ble_eq_true rfl, Nat.le_of_ble_eq_true rfl⟩)) hM hS rfl rfl rfl hl.1 (Nat.le_of_ble_eq_true rfl) dX3_told_4 (by rw [hR]; exact ⟨Nat.zero_le _, Nat.zero_le _⟩) (fun H locs hM hS => ?_)
  refine mr_neB (tgt := 12) C0 dX3_told_7 (by decide) (fun c1 => ?_) (fun c1 => absurd c1 (by decide))
  refine lv_iload_n hx hb dX3_told_12 rfl (lv_at hl 1 rfl) ?_
  refine lv_tableIn (off := 121) (tgt := 134) hx hb dX3_told_13 (by decide) (by decide) (by decide) (by decide) ?_
  refine lv_aload_n hx hb dX3_told_134 rfl (lv_at hl 0 rfl) ?_
  refine mr_getr (r := p) (TT := TX3) (N := 7) C0 uX3_told_X3 hM hX.1.1 hX.1.2 rfl 0 (by decide) rfl kX3_told_f10 rfl dX3_told_135 ?_
  refine mr_callV (As := []) C0 (ctX2_candidateCount (I := I) (J := J) (q := p) hX.2.1 hW) (cwV 0 C0.1.2.2.2.2 gX3_told_X2_candidateCount rfl rfl rfl (by decide +kernel) (by rw [hR]; exact ⟨Nat.le_of_ble_eq_true rfl, Nat.le_of_ble_eq_true rfl⟩)) hM hX.2.1.1.1 hX.2.1.1.2 rfl rfl hM hS rfl rfl rfl hl.1 (Nat.le_of_ble_eq_true rfl) dX3_told_138 (by rw [hR]; exact ⟨Nat.zero_le _, Nat.zero_le _⟩) (fun H locs hM hS => ?_)
  skip
  exact mr_iret (v := fX2_candidateCount I p c e) C0 hr hlk hQ hS rfl hM (Nat.le_refl _) (Nat.le_refl _) dX3_told_141
set_option maxHeartbeats 4000000 in
set_option maxRecDepth 100000 in
theorem ctX3_told_8 {l : Launch} {D : va_G} {T : Nat → ClassId} {L : List Nat} {A : Nat → Prop} {Sh : hm_S} {I : hm_I} {J : hm_J} {x p f h m k j : Nat} {hs im : Nat → Nat} (hX : IsX L Sh x p f h m k j hs im) (hA : ApX x p f h m k j hs im) {c : Nat → Nat} {e : Nat → Nat → Nat} {ec lc : Nat} (hW : WfS I p c e ec lc) {n : Nat} (hn : I x 3 = nI n) (hn8 : n ≤ 8) :
    Ct l yX3_told wsX3_told { frames := 5, cells := 0, slots := 0, locals := 111 } 0 0 D T A [.ref x, .int (nI 8)] (hm D T L A Sh I J) (some (.int (fX2_nextStream I p c e))) (hm D T L A Sh I J) := by
  refine Ct.ofW (cc := cX3_told) (maxL := 2) (ret := (some .int)) (by decide) rfl (Nat.le_of_ble_eq_true rfl) ?_
  intro p_ e_ s_ m_ args_ below_ meth_ c_ ls R Qq hR hQ C0 hr hlk hname hM hl
  have hx := C0.1.1
  have hb := C0.1.2.1
  have hS : va_S A s_.heap s_.heap [] := va_S.rf
  have hl : lv_has ls 2 [(0, .ref x), (1, .int (nI 8))] := hl
  have hec10 := hW.2.2.2.2.1
  have hec1 := hW.2.2.2.1
  refine lv_iload_n hx hb dX3_told_0 rfl (lv_at hl 1 rfl) ?_
  refine lv_iconst (v := nI 0) hx hb dX3_told_1 (by decide) ?_
  refine lv_bipush (v := nI 11) hx hb dX3_told_2 (by decide) ?_
  refine mr_callS (As := [.int (nI 8), .int (nI 0), .int (nI 11)]) C0 (ctX3_isWithin (I := I) (J := J) (v := (nI 8)) (lo := (nI 0)) (up := (nI 11)) ) (va_cwS 3 C0.1.2.2.2.2 gX3_told_X3_isWithin rfl rfl rfl (by decide +kernel) (by rw [hR]; exact ⟨Nat.le_of_ble_eq_true rfl, Nat.le_of_ble_eq_true rfl⟩)) hM hS rfl rfl rfl hl.1 (Nat.le_of_ble_eq_true rfl) dX3_told_4 (by rw [hR]; exact ⟨Nat.zero_le _, Nat.zero_le _⟩) (fun H locs hM hS => ?_)
  refine mr_neB (tgt := 12) C0 dX3_told_7 (by decide) (fun c1 => ?_) (fun c1 => absurd c1 (by decide))
  refine lv_iload_n hx hb dX3_told_12 rfl (lv_at hl 1 rfl) ?_
  refine lv_tableIn (off := 129) (tgt := 142) hx hb dX3_told_13 (by decide) (by decide) (by decide) (by decide) ?_
  refine lv_aload_n hx hb dX3_told_142 rfl (lv_at hl 0 rfl) ?_
  refine mr_getr (r := p) (TT := TX3) (N := 7) C0 uX3_told_X3 hM hX.1.1 hX.1.2 rfl 0 (by decide) rfl kX3_told_f10 rfl dX3_told_143 ?_
  refine mr_callV (As := []) C0 (ctX2_nextStream (I := I) (J := J) (q := p) hX.2.1 hW) (cwV 0 C0.1.2.2.2.2 gX3_told_X2_nextStream rfl rfl rfl (by decide +kernel) (by rw [hR]; exact ⟨Nat.le_of_ble_eq_true rfl, Nat.le_of_ble_eq_true rfl⟩)) hM hX.2.1.1.1 hX.2.1.1.2 rfl rfl hM hS rfl rfl rfl hl.1 (Nat.le_of_ble_eq_true rfl) dX3_told_146 (by rw [hR]; exact ⟨Nat.zero_le _, Nat.zero_le _⟩) (fun H locs hM hS => ?_)
  skip
  exact mr_iret (v := fX2_nextStream I p c e) C0 hr hlk hQ hS rfl hM (Nat.le_refl _) (Nat.le_refl _) dX3_told_149
set_option maxHeartbeats 4000000 in
set_option maxRecDepth 100000 in
theorem ctX3_told_9 {l : Launch} {D : va_G} {T : Nat → ClassId} {L : List Nat} {A : Nat → Prop} {Sh : hm_S} {I : hm_I} {J : hm_J} {x p f h m k j : Nat} {hs im : Nat → Nat} (hX : IsX L Sh x p f h m k j hs im) (hA : ApX x p f h m k j hs im) {c : Nat → Nat} {e : Nat → Nat → Nat} {ec lc : Nat} (hW : WfS I p c e ec lc) {n : Nat} (hn : I x 3 = nI n) (hn8 : n ≤ 8) :
    Ct l yX3_told wsX3_told { frames := 1, cells := 0, slots := 0, locals := 22 } 0 0 D T A [.ref x, .int (nI 9)] (hm D T L A Sh I J) (some (.int (nI lc))) (hm D T L A Sh I J) := by
  refine Ct.ofW (cc := cX3_told) (maxL := 2) (ret := (some .int)) (by decide) rfl (Nat.le_of_ble_eq_true rfl) ?_
  intro p_ e_ s_ m_ args_ below_ meth_ c_ ls R Qq hR hQ C0 hr hlk hname hM hl
  have hx := C0.1.1
  have hb := C0.1.2.1
  have hS : va_S A s_.heap s_.heap [] := va_S.rf
  have hl : lv_has ls 2 [(0, .ref x), (1, .int (nI 9))] := hl
  have hec10 := hW.2.2.2.2.1
  have hec1 := hW.2.2.2.1
  refine lv_iload_n hx hb dX3_told_0 rfl (lv_at hl 1 rfl) ?_
  refine lv_iconst (v := nI 0) hx hb dX3_told_1 (by decide) ?_
  refine lv_bipush (v := nI 11) hx hb dX3_told_2 (by decide) ?_
  refine mr_callS (As := [.int (nI 9), .int (nI 0), .int (nI 11)]) C0 (ctX3_isWithin (I := I) (J := J) (v := (nI 9)) (lo := (nI 0)) (up := (nI 11)) ) (va_cwS 3 C0.1.2.2.2.2 gX3_told_X3_isWithin rfl rfl rfl (by decide +kernel) (by rw [hR]; exact ⟨Nat.le_of_ble_eq_true rfl, Nat.le_of_ble_eq_true rfl⟩)) hM hS rfl rfl rfl hl.1 (Nat.le_of_ble_eq_true rfl) dX3_told_4 (by rw [hR]; exact ⟨Nat.zero_le _, Nat.zero_le _⟩) (fun H locs hM hS => ?_)
  refine mr_neB (tgt := 12) C0 dX3_told_7 (by decide) (fun c1 => ?_) (fun c1 => absurd c1 (by decide))
  refine lv_iload_n hx hb dX3_told_12 rfl (lv_at hl 1 rfl) ?_
  refine lv_tableIn (off := 137) (tgt := 150) hx hb dX3_told_13 (by decide) (by decide) (by decide) (by decide) ?_
  refine lv_aload_n hx hb dX3_told_150 rfl (lv_at hl 0 rfl) ?_
  refine mr_getr (r := p) (TT := TX3) (N := 7) C0 uX3_told_X3 hM hX.1.1 hX.1.2 rfl 0 (by decide) rfl kX3_told_f10 rfl dX3_told_151 ?_
  refine mr_getr (r := p + 78) (TT := TX2) (N := 10) C0 uX3_told_X2 hM hX.2.1.1.1 hX.2.1.1.2 rfl 9 (by decide) rfl kX3_told_f171 rfl dX3_told_154 ?_
  have hw2 := hW.2.2.2.2.2.2
  refine mr_geti (v := nI lc) (TT := TX0) (N := 5) C0 uX3_told_X0 hM hX.2.1.2.2.2.2.2.2.2.2.1.1 hX.2.1.2.2.2.2.2.2.2.2.1.2 rfl 4 (by decide) rfl hW.2.2.2.2.2.1 kX3_told_f69 rfl dX3_told_157 ?_
  skip
  exact mr_iret (v := nI lc) C0 hr hlk hQ hS rfl hM (Nat.le_refl _) (Nat.le_refl _) dX3_told_160
set_option maxHeartbeats 4000000 in
set_option maxRecDepth 100000 in
theorem ctX3_told_10 {l : Launch} {D : va_G} {T : Nat → ClassId} {L : List Nat} {A : Nat → Prop} {Sh : hm_S} {I : hm_I} {J : hm_J} {x p f h m k j : Nat} {hs im : Nat → Nat} (hX : IsX L Sh x p f h m k j hs im) (hA : ApX x p f h m k j hs im) {c : Nat → Nat} {e : Nat → Nat → Nat} {ec lc : Nat} (hW : WfS I p c e ec lc) {n : Nat} (hn : I x 3 = nI n) (hn8 : n ≤ 8) :
    Ct l yX3_told wsX3_told { frames := 1, cells := 0, slots := 0, locals := 22 } 0 0 D T A [.ref x, .int (nI 10)] (hm D T L A Sh I J) (some (.int (nI n))) (hm D T L A Sh I J) := by
  refine Ct.ofW (cc := cX3_told) (maxL := 2) (ret := (some .int)) (by decide) rfl (Nat.le_of_ble_eq_true rfl) ?_
  intro p_ e_ s_ m_ args_ below_ meth_ c_ ls R Qq hR hQ C0 hr hlk hname hM hl
  have hx := C0.1.1
  have hb := C0.1.2.1
  have hS : va_S A s_.heap s_.heap [] := va_S.rf
  have hl : lv_has ls 2 [(0, .ref x), (1, .int (nI 10))] := hl
  have hec10 := hW.2.2.2.2.1
  have hec1 := hW.2.2.2.1
  refine lv_iload_n hx hb dX3_told_0 rfl (lv_at hl 1 rfl) ?_
  refine lv_iconst (v := nI 0) hx hb dX3_told_1 (by decide) ?_
  refine lv_bipush (v := nI 11) hx hb dX3_told_2 (by decide) ?_
  refine mr_callS (As := [.int (nI 10), .int (nI 0), .int (nI 11)]) C0 (ctX3_isWithin (I := I) (J := J) (v := (nI 10)) (lo := (nI 0)) (up := (nI 11)) ) (va_cwS 3 C0.1.2.2.2.2 gX3_told_X3_isWithin rfl rfl rfl (by decide +kernel) (by rw [hR]; exact ⟨Nat.le_of_ble_eq_true rfl, Nat.le_of_ble_eq_true rfl⟩)) hM hS rfl rfl rfl hl.1 (Nat.le_of_ble_eq_true rfl) dX3_told_4 (by rw [hR]; exact ⟨Nat.zero_le _, Nat.zero_le _⟩) (fun H locs hM hS => ?_)
  refine mr_neB (tgt := 12) C0 dX3_told_7 (by decide) (fun c1 => ?_) (fun c1 => absurd c1 (by decide))
  refine lv_iload_n hx hb dX3_told_12 rfl (lv_at hl 1 rfl) ?_
  refine lv_tableIn (off := 148) (tgt := 161) hx hb dX3_told_13 (by decide) (by decide) (by decide) (by decide) ?_
  refine lv_aload_n hx hb dX3_told_161 rfl (lv_at hl 0 rfl) ?_
  refine mr_geti (v := nI n) (TT := TX3) (N := 7) C0 uX3_told_X3 hM hX.1.1 hX.1.2 rfl 3 (by decide) rfl hn kX3_told_f23 rfl dX3_told_162 ?_
  skip
  exact mr_iret (v := nI n) C0 hr hlk hQ hS rfl hM (Nat.le_refl _) (Nat.le_refl _) dX3_told_165
def fX3_told_11 (I : hm_I) (p ec : Nat) : Int32 :=
  if fX1_hasSameEdges I (p + 44) (p + 48 + 3 * (ec - 1)) = true then nI 1 else nI 0
set_option maxHeartbeats 4000000 in
set_option maxRecDepth 100000 in
theorem ctX3_told_11 {l : Launch} {D : va_G} {T : Nat → ClassId} {L : List Nat} {A : Nat → Prop} {Sh : hm_S} {I : hm_I} {J : hm_J} {x p f h m k j : Nat} {hs im : Nat → Nat} (hX : IsX L Sh x p f h m k j hs im) (hA : ApX x p f h m k j hs im) {c : Nat → Nat} {e : Nat → Nat → Nat} {ec lc : Nat} (hW : WfS I p c e ec lc) {n : Nat} (hn : I x 3 = nI n) (hn8 : n ≤ 8) :
    Ct l yX3_told wsX3_told { frames := 1, cells := 0, slots := 0, locals := 22 } 0 0 D T A [.ref x, .int (nI 11)] (hm D T L A Sh I J) (some (.int (fX3_told_11 I p ec))) (hm D T L A Sh I J) := by
  refine Ct.ofW (cc := cX3_told) (maxL := 2) (ret := (some .int)) (by decide) rfl (Nat.le_of_ble_eq_true rfl) ?_
  intro p_ e_ s_ m_ args_ below_ meth_ c_ ls R Qq hR hQ C0 hr hlk hname hM hl
  have hx := C0.1.1
  have hb := C0.1.2.1
  have hS : va_S A s_.heap s_.heap [] := va_S.rf
  have hl : lv_has ls 2 [(0, .ref x), (1, .int (nI 11))] := hl
  have hec10 := hW.2.2.2.2.1
  have hec1 := hW.2.2.2.1
  refine lv_iload_n hx hb dX3_told_0 rfl (lv_at hl 1 rfl) ?_
  refine lv_iconst (v := nI 0) hx hb dX3_told_1 (by decide) ?_
  refine lv_bipush (v := nI 11) hx hb dX3_told_2 (by decide) ?_
  refine mr_callS (As := [.int (nI 11), .int (nI 0), .int (nI 11)]) C0 (ctX3_isWithin (I := I) (J := J) (v := (nI 11)) (lo := (nI 0)) (up := (nI 11)) ) (va_cwS 3 C0.1.2.2.2.2 gX3_told_X3_isWithin rfl rfl rfl (by decide +kernel) (by rw [hR]; exact ⟨Nat.le_of_ble_eq_true rfl, Nat.le_of_ble_eq_true rfl⟩)) hM hS rfl rfl rfl hl.1 (Nat.le_of_ble_eq_true rfl) dX3_told_4 (by rw [hR]; exact ⟨Nat.zero_le _, Nat.zero_le _⟩) (fun H locs hM hS => ?_)
  refine mr_neB (tgt := 12) C0 dX3_told_7 (by decide) (fun c1 => ?_) (fun c1 => absurd c1 (by decide))
  refine lv_iload_n hx hb dX3_told_12 rfl (lv_at hl 1 rfl) ?_
  refine lv_tableOut (tgt := 166) hx hb dX3_told_13 (by decide) (by decide) ?_
  refine lv_aload_n hx hb dX3_told_166 rfl (lv_at hl 0 rfl) ?_
  refine mr_getr (r := p) (TT := TX3) (N := 7) C0 uX3_told_X3 hM hX.1.1 hX.1.2 rfl 0 (by decide) rfl kX3_told_f10 rfl dX3_told_167 ?_
  refine mr_getr (r := p + 44) (TT := TX2) (N := 10) C0 uX3_told_X2 hM hX.2.1.1.1 hX.2.1.1.2 rfl 4 (by decide) rfl kX3_told_f97 rfl dX3_told_170 ?_
  refine lv_aload_n hx hb dX3_told_173 rfl (lv_at hl 0 rfl) ?_
  refine mr_getr (r := p) (TT := TX3) (N := 7) C0 uX3_told_X3 hM hX.1.1 hX.1.2 rfl 0 (by decide) rfl kX3_told_f10 rfl dX3_told_174 ?_
  refine lv_aload_n hx hb dX3_told_177 rfl (lv_at hl 0 rfl) ?_
  refine mr_getr (r := p) (TT := TX3) (N := 7) C0 uX3_told_X3 hM hX.1.1 hX.1.2 rfl 0 (by decide) rfl kX3_told_f10 rfl dX3_told_178 ?_
  refine mr_callV (As := []) C0 (ctX2_currentEpoch (I := I) (J := J) (q := p) hX.2.1 hW) (cwV 0 C0.1.2.2.2.2 gX3_told_X2_currentEpoch rfl rfl rfl (by decide +kernel) (by rw [hR]; exact ⟨Nat.le_of_ble_eq_true rfl, Nat.le_of_ble_eq_true rfl⟩)) hM hX.2.1.1.1 hX.2.1.1.2 rfl rfl hM hS rfl rfl rfl hl.1 (Nat.le_of_ble_eq_true rfl) dX3_told_181 (by rw [hR]; exact ⟨Nat.zero_le _, Nat.zero_le _⟩) (fun H locs hM hS => ?_)
  refine mr_callV (As := [.int (nI (ec - 1))]) C0 (ctX2_orderOf_t (I := I) (J := J) (q := p) (e0 := (ec - 1)) hX.2.1 hW (by omega)) (cwV 1 C0.1.2.2.2.2 gX3_told_X2_orderOf rfl rfl rfl (by decide +kernel) (by rw [hR]; exact ⟨Nat.le_of_ble_eq_true rfl, Nat.le_of_ble_eq_true rfl⟩)) hM hX.2.1.1.1 hX.2.1.1.2 rfl rfl hM hS rfl rfl rfl hl.1 (Nat.le_of_ble_eq_true rfl) dX3_told_184 (by rw [hR]; exact ⟨Nat.zero_le _, Nat.zero_le _⟩) (fun H locs hM hS => ?_)
  refine mr_callV (As := [.ref (p + 48 + 3 * (ec - 1))]) C0 (ctX1_hasSameEdges (I := I) (J := J) (a := (p + 44)) (b := (p + 48 + 3 * (ec - 1))) hX.2.1.2.2.2.2.2.1 (hX.2.1.2.2.2.2.2.2.2.1 _ (by omega))) (cwV 1 C0.1.2.2.2.2 gX3_told_X1_hasSameEdges rfl rfl rfl (by decide +kernel) (by rw [hR]; exact ⟨Nat.le_of_ble_eq_true rfl, Nat.le_of_ble_eq_true rfl⟩)) hM hX.2.1.2.2.2.2.2.1.1.1 hX.2.1.2.2.2.2.2.1.1.2 rfl rfl hM hS rfl rfl rfl hl.1 (Nat.le_of_ble_eq_true rfl) dX3_told_187 (by rw [hR]; exact ⟨Nat.zero_le _, Nat.zero_le _⟩) (fun H locs hM hS => ?_)
  refine mr_eqB (tgt := 197) C0 dX3_told_190 (by decide) (fun c2 => ?_) (fun c2 => ?_)
  · skip
    refine lv_iconst (v := nI 0) hx hb dX3_told_197 (by decide) ?_
    have eF : nI 0 = fX3_told_11 I p ec := by unfold fX3_told_11; rw [if_neg (Bool.eq_false_iff.mp c2)]
    exact mr_iret (v := nI 0) C0 hr hlk hQ hS (by rw [← eF]) hM (Nat.le_refl _) (Nat.le_refl _) dX3_told_198
  · skip
    refine lv_iconst (v := nI 1) hx hb dX3_told_193 (by decide) ?_
    refine lv_goto (tgt := 198) hx hb dX3_told_194 (by decide) ?_
    have eF : nI 1 = fX3_told_11 I p ec := by unfold fX3_told_11; rw [if_pos c2]
    exact mr_iret (v := nI 1) C0 hr hlk hQ hS (by rw [← eF]) hM (Nat.le_refl _) (Nat.le_refl _) dX3_told_198
set_option maxHeartbeats 4000000 in
set_option maxRecDepth 100000 in
theorem ctX3_stream_b {l : Launch} {D : va_G} {T : Nat → ClassId} {L : List Nat} {A : Nat → Prop} {Sh : hm_S} {I : hm_I} {J : hm_J} {x p f h m k j : Nat} {hs im : Nat → Nat} (hX : IsX L Sh x p f h m k j hs im) {s0 w0 : Int32} (hb0 : (fX3_isStream s0 && fX3_isWithin w0 (nI 0) (nI 7)) = false) :
    Ct l yX3_stream wsX3_stream { frames := 1, cells := 0, slots := 0, locals := 22 } 0 0 D T A [.ref x, .int s0, .int w0] (hm D T L A Sh I J) (some (.int (-1))) (hm D T L A Sh I J) := by
  refine Ct.ofW (cc := cX3_stream) (maxL := 5) (ret := (some .int)) (by decide) rfl (Nat.le_of_ble_eq_true rfl) ?_
  intro p_ e_ s_ m_ args_ below_ meth_ c_ ls R Qq hR hQ C0 hr hlk hname hM hl
  have hx := C0.1.1
  have hb := C0.1.2.1
  have hS : va_S A s_.heap s_.heap [] := va_S.rf
  have hl : lv_has ls 5 [(0, .ref x), (1, .int s0), (2, .int w0)] := hl
  refine lv_iload_n hx hb dX3_stream_0 rfl (lv_at hl 1 rfl) ?_
  refine mr_callS (As := [.int s0]) C0 (ctX3_isStream (I := I) (J := J) (s0 := s0) ) (va_cwS 1 C0.1.2.2.2.2 gX3_stream_X3_isStream rfl rfl rfl (by decide +kernel) (by rw [hR]; exact ⟨Nat.le_of_ble_eq_true rfl, Nat.le_of_ble_eq_true rfl⟩)) hM hS rfl rfl rfl hl.1 (Nat.le_of_ble_eq_true rfl) dX3_stream_1 (by rw [hR]; exact ⟨Nat.zero_le _, Nat.zero_le _⟩) (fun H locs hM hS => ?_)
  refine mr_eqB (tgt := 17) C0 dX3_stream_4 (by decide) (fun c1 => ?_) (fun c1 => ?_)
  · skip
    refine lv_iconst (v := (-1)) hx hb dX3_stream_17 (by decide) ?_
    skip
    exact mr_iret (v := (-1)) C0 hr hlk hQ hS rfl hM (Nat.le_refl _) (Nat.le_refl _) dX3_stream_18
  · skip
    refine lv_iload_n hx hb dX3_stream_7 rfl (lv_at hl 2 rfl) ?_
    refine lv_iconst (v := nI 0) hx hb dX3_stream_8 (by decide) ?_
    refine lv_bipush (v := nI 7) hx hb dX3_stream_9 (by decide) ?_
    refine mr_callS (As := [.int w0, .int (nI 0), .int (nI 7)]) C0 (ctX3_isWithin (I := I) (J := J) (v := w0) (lo := (nI 0)) (up := (nI 7)) ) (va_cwS 3 C0.1.2.2.2.2 gX3_stream_X3_isWithin rfl rfl rfl (by decide +kernel) (by rw [hR]; exact ⟨Nat.le_of_ble_eq_true rfl, Nat.le_of_ble_eq_true rfl⟩)) hM hS rfl rfl rfl hl.1 (Nat.le_of_ble_eq_true rfl) dX3_stream_11 (by rw [hR]; exact ⟨Nat.zero_le _, Nat.zero_le _⟩) (fun H locs hM hS => ?_)
    refine mr_neB (tgt := 19) C0 dX3_stream_14 (by decide) (fun c2 => absurd hb0 (by rw [c1, c2]; decide)) (fun c2 => ?_)
    refine lv_iconst (v := (-1)) hx hb dX3_stream_17 (by decide) ?_
    skip
    exact mr_iret (v := (-1)) C0 hr hlk hQ hS rfl hM (Nat.le_refl _) (Nat.le_refl _) dX3_stream_18
def fX3_stream_0 (I : hm_I) (p : Nat) (c : Nat → Nat) (s0 : Nat) : Int32 :=
  if fX2_isOpen I p (nI s0) = true then nI 1 else nI 0
set_option maxHeartbeats 4000000 in
set_option maxRecDepth 100000 in
theorem ctX3_stream_0 {l : Launch} {D : va_G} {T : Nat → ClassId} {L : List Nat} {A : Nat → Prop} {Sh : hm_S} {I : hm_I} {J : hm_J} {x p f h m k j : Nat} {hs im : Nat → Nat} (hX : IsX L Sh x p f h m k j hs im) (hA : ApX x p f h m k j hs im) {c : Nat → Nat} {e : Nat → Nat → Nat} {ec lc : Nat} (hW : WfS I p c e ec lc) {s0 : Nat} (hs0 : s0 < 8) :
    Ct l yX3_stream wsX3_stream { frames := 2, cells := 0, slots := 0, locals := 42 } 0 0 D T A [.ref x, .int (nI s0), .int (nI 0)] (hm D T L A Sh I J) (some (.int (fX3_stream_0 I p c s0))) (hm D T L A Sh I J) := by
  refine Ct.ofW (cc := cX3_stream) (maxL := 5) (ret := (some .int)) (by decide) rfl (Nat.le_of_ble_eq_true rfl) ?_
  intro p_ e_ s_ m_ args_ below_ meth_ c_ ls R Qq hR hQ C0 hr hlk hname hM hl
  have hx := C0.1.1
  have hb := C0.1.2.1
  have hS : va_S A s_.heap s_.heap [] := va_S.rf
  have hl : lv_has ls 5 [(0, .ref x), (1, .int (nI s0)), (2, .int (nI 0))] := hl
  refine lv_iload_n hx hb dX3_stream_0 rfl (lv_at hl 1 rfl) ?_
  refine mr_callS (As := [.int (nI s0)]) C0 (ctX3_isStream_t (I := I) (J := J) (s0 := s0) (by omega)) (va_cwS 1 C0.1.2.2.2.2 gX3_stream_X3_isStream rfl rfl rfl (by decide +kernel) (by rw [hR]; exact ⟨Nat.le_of_ble_eq_true rfl, Nat.le_of_ble_eq_true rfl⟩)) hM hS rfl rfl rfl hl.1 (Nat.le_of_ble_eq_true rfl) dX3_stream_1 (by rw [hR]; exact ⟨Nat.zero_le _, Nat.zero_le _⟩) (fun H locs hM hS => ?_)
  refine mr_eqB (tgt := 17) C0 dX3_stream_4 (by decide) (fun c1 => absurd c1 (by decide)) (fun _ => ?_)
  refine lv_iload_n hx hb dX3_stream_7 rfl (lv_at hl 2 rfl) ?_
  refine lv_iconst (v := nI 0) hx hb dX3_stream_8 (by decide) ?_
  refine lv_bipush (v := nI 7) hx hb dX3_stream_9 (by decide) ?_
  refine mr_callS (As := [.int (nI 0), .int (nI 0), .int (nI 7)]) C0 (ctX3_isWithin (I := I) (J := J) (v := (nI 0)) (lo := (nI 0)) (up := (nI 7)) ) (va_cwS 3 C0.1.2.2.2.2 gX3_stream_X3_isWithin rfl rfl rfl (by decide +kernel) (by rw [hR]; exact ⟨Nat.le_of_ble_eq_true rfl, Nat.le_of_ble_eq_true rfl⟩)) hM hS rfl rfl rfl hl.1 (Nat.le_of_ble_eq_true rfl) dX3_stream_11 (by rw [hR]; exact ⟨Nat.zero_le _, Nat.zero_le _⟩) (fun H locs hM hS => ?_)
  refine mr_neB (tgt := 19) C0 dX3_stream_14 (by decide) (fun c2 => ?_) (fun c2 => absurd c2 (by decide))
  refine lv_aload_n hx hb dX3_stream_19 rfl (lv_at hl 0 rfl) ?_
  refine mr_getr (r := p) (TT := TX3) (N := 7) C0 uX3_stream_X3 hM hX.1.1 hX.1.2 rfl 0 (by decide) rfl kX3_stream_f10 rfl dX3_stream_20 ?_
  refine mr_getr (r := p + 3) (TT := TX2) (N := 10) C0 uX3_stream_X2 hM hX.2.1.1.1 hX.2.1.1.2 rfl 3 (by decide) rfl kX3_stream_f65 rfl dX3_stream_23 ?_
  refine lv_iload_n hx hb dX3_stream_26 rfl (lv_at hl 1 rfl) ?_
  refine mr_aald (t := 0) (C := RX0) (r := p + 4 + 5 * s0) C0 hM hX.2.1.2.2.2.1.1 hX.2.1.2.2.2.1.2 rfl (by decide) (by omega) rfl dX3_stream_27 ?_
  refine lv_astore_n (lv' := [(3, .ref (p + 4 + 5 * s0)), (0, .ref x), (1, .int (nI s0)), (2, .int (nI 0))]) hx hb dX3_stream_28 rfl hl (by decide) rfl (fun ls hl => ?_)
  refine lv_iload_n hx hb dX3_stream_29 rfl (lv_at hl 3 rfl) ?_
  refine lv_iconst (v := nI 5) hx hb dX3_stream_30 (by decide) ?_
  refine mr_ltN (x := 0) (y := 5) (tgt := 44) C0 dX3_stream_31 (by decide) (by decide) (by decide) (fun _ => ?_) (fun c3 => absurd c3 (by decide))
  refine lv_aload_n hx hb dX3_stream_44 rfl (lv_at hl 1 rfl) ?_
  refine mr_getr (r := p) (TT := TX3) (N := 7) C0 uX3_stream_X3 hM hX.1.1 hX.1.2 rfl 0 (by decide) rfl kX3_stream_f10 rfl dX3_stream_45 ?_
  refine lv_iload_n hx hb dX3_stream_48 rfl (lv_at hl 2 rfl) ?_
  refine mr_callV (As := [.int (nI s0)]) C0 (ctX2_isOpen (I := I) (J := J) (q := p) (s0 := (nI s0)) hX.2.1) (cwV 1 C0.1.2.2.2.2 gX3_stream_X2_isOpen rfl rfl rfl (by decide +kernel) (by rw [hR]; exact ⟨Nat.le_of_ble_eq_true rfl, Nat.le_of_ble_eq_true rfl⟩)) hM hX.2.1.1.1 hX.2.1.1.2 rfl rfl hM hS rfl rfl rfl hl.1 (Nat.le_of_ble_eq_true rfl) dX3_stream_49 (by rw [hR]; exact ⟨Nat.zero_le _, Nat.zero_le _⟩) (fun H locs hM hS => ?_)
  refine lv_istore (lv' := [(4, .int (bI (fX2_isOpen I p (nI s0)))), (3, .ref (p + 4 + 5 * s0)), (0, .ref x), (1, .int (nI s0)), (2, .int (nI 0))]) hx hb dX3_stream_52 hl (by decide) rfl (fun ls hl => ?_)
  refine lv_iload_n hx hb dX3_stream_54 rfl (lv_at hl 4 rfl) ?_
  refine lv_tableIn (off := 41) (tgt := 96) hx hb dX3_stream_55 (by decide) (by decide) (by decide) (by decide) ?_
  refine lv_iload hx hb dX3_stream_96 (lv_at hl 0 rfl) ?_
  refine mr_eqB (tgt := 105) C0 dX3_stream_98 (by decide) (fun c4 => ?_) (fun c4 => ?_)
  · skip
    refine lv_iconst (v := nI 0) hx hb dX3_stream_105 (by decide) ?_
    have eF : nI 0 = fX3_stream_0 I p c s0 := by unfold fX3_stream_0; rw [if_neg (Bool.eq_false_iff.mp c4)]
    exact mr_iret (v := nI 0) C0 hr hlk hQ hS (by rw [← eF]) hM (Nat.le_refl _) (Nat.le_refl _) dX3_stream_106
  · skip
    refine lv_iconst (v := nI 1) hx hb dX3_stream_101 (by decide) ?_
    refine lv_goto (tgt := 106) hx hb dX3_stream_102 (by decide) ?_
    have eF : nI 1 = fX3_stream_0 I p c s0 := by unfold fX3_stream_0; rw [if_pos c4]
    exact mr_iret (v := nI 1) C0 hr hlk hQ hS (by rw [← eF]) hM (Nat.le_refl _) (Nat.le_refl _) dX3_stream_106
def fX3_stream_1 (I : hm_I) (p : Nat) (c : Nat → Nat) (s0 : Nat) : Int32 :=
  if fX2_isOpen I p (nI s0) = true then I (p + 1) s0 else nI 0
set_option maxHeartbeats 4000000 in
set_option maxRecDepth 100000 in
theorem ctX3_stream_1 {l : Launch} {D : va_G} {T : Nat → ClassId} {L : List Nat} {A : Nat → Prop} {Sh : hm_S} {I : hm_I} {J : hm_J} {x p f h m k j : Nat} {hs im : Nat → Nat} (hX : IsX L Sh x p f h m k j hs im) (hA : ApX x p f h m k j hs im) {c : Nat → Nat} {e : Nat → Nat → Nat} {ec lc : Nat} (hW : WfS I p c e ec lc) {s0 : Nat} (hs0 : s0 < 8) :
    Ct l yX3_stream wsX3_stream { frames := 2, cells := 0, slots := 0, locals := 42 } 0 0 D T A [.ref x, .int (nI s0), .int (nI 1)] (hm D T L A Sh I J) (some (.int (fX3_stream_1 I p c s0))) (hm D T L A Sh I J) := by
  refine Ct.ofW (cc := cX3_stream) (maxL := 5) (ret := (some .int)) (by decide) rfl (Nat.le_of_ble_eq_true rfl) ?_
  intro p_ e_ s_ m_ args_ below_ meth_ c_ ls R Qq hR hQ C0 hr hlk hname hM hl
  have hx := C0.1.1
  have hb := C0.1.2.1
  have hS : va_S A s_.heap s_.heap [] := va_S.rf
  have hl : lv_has ls 5 [(0, .ref x), (1, .int (nI s0)), (2, .int (nI 1))] := hl
  refine lv_iload_n hx hb dX3_stream_0 rfl (lv_at hl 1 rfl) ?_
  refine mr_callS (As := [.int (nI s0)]) C0 (ctX3_isStream_t (I := I) (J := J) (s0 := s0) (by omega)) (va_cwS 1 C0.1.2.2.2.2 gX3_stream_X3_isStream rfl rfl rfl (by decide +kernel) (by rw [hR]; exact ⟨Nat.le_of_ble_eq_true rfl, Nat.le_of_ble_eq_true rfl⟩)) hM hS rfl rfl rfl hl.1 (Nat.le_of_ble_eq_true rfl) dX3_stream_1 (by rw [hR]; exact ⟨Nat.zero_le _, Nat.zero_le _⟩) (fun H locs hM hS => ?_)
  refine mr_eqB (tgt := 17) C0 dX3_stream_4 (by decide) (fun c1 => absurd c1 (by decide)) (fun _ => ?_)
  refine lv_iload_n hx hb dX3_stream_7 rfl (lv_at hl 2 rfl) ?_
  refine lv_iconst (v := nI 0) hx hb dX3_stream_8 (by decide) ?_
  refine lv_bipush (v := nI 7) hx hb dX3_stream_9 (by decide) ?_
  refine mr_callS (As := [.int (nI 1), .int (nI 0), .int (nI 7)]) C0 (ctX3_isWithin (I := I) (J := J) (v := (nI 1)) (lo := (nI 0)) (up := (nI 7)) ) (va_cwS 3 C0.1.2.2.2.2 gX3_stream_X3_isWithin rfl rfl rfl (by decide +kernel) (by rw [hR]; exact ⟨Nat.le_of_ble_eq_true rfl, Nat.le_of_ble_eq_true rfl⟩)) hM hS rfl rfl rfl hl.1 (Nat.le_of_ble_eq_true rfl) dX3_stream_11 (by rw [hR]; exact ⟨Nat.zero_le _, Nat.zero_le _⟩) (fun H locs hM hS => ?_)
  refine mr_neB (tgt := 19) C0 dX3_stream_14 (by decide) (fun c2 => ?_) (fun c2 => absurd c2 (by decide))
  refine lv_aload_n hx hb dX3_stream_19 rfl (lv_at hl 0 rfl) ?_
  refine mr_getr (r := p) (TT := TX3) (N := 7) C0 uX3_stream_X3 hM hX.1.1 hX.1.2 rfl 0 (by decide) rfl kX3_stream_f10 rfl dX3_stream_20 ?_
  refine mr_getr (r := p + 3) (TT := TX2) (N := 10) C0 uX3_stream_X2 hM hX.2.1.1.1 hX.2.1.1.2 rfl 3 (by decide) rfl kX3_stream_f65 rfl dX3_stream_23 ?_
  refine lv_iload_n hx hb dX3_stream_26 rfl (lv_at hl 1 rfl) ?_
  refine mr_aald (t := 0) (C := RX0) (r := p + 4 + 5 * s0) C0 hM hX.2.1.2.2.2.1.1 hX.2.1.2.2.2.1.2 rfl (by decide) (by omega) rfl dX3_stream_27 ?_
  refine lv_astore_n (lv' := [(3, .ref (p + 4 + 5 * s0)), (0, .ref x), (1, .int (nI s0)), (2, .int (nI 1))]) hx hb dX3_stream_28 rfl hl (by decide) rfl (fun ls hl => ?_)
  refine lv_iload_n hx hb dX3_stream_29 rfl (lv_at hl 3 rfl) ?_
  refine lv_iconst (v := nI 5) hx hb dX3_stream_30 (by decide) ?_
  refine mr_ltN (x := 1) (y := 5) (tgt := 44) C0 dX3_stream_31 (by decide) (by decide) (by decide) (fun _ => ?_) (fun c3 => absurd c3 (by decide))
  refine lv_aload_n hx hb dX3_stream_44 rfl (lv_at hl 1 rfl) ?_
  refine mr_getr (r := p) (TT := TX3) (N := 7) C0 uX3_stream_X3 hM hX.1.1 hX.1.2 rfl 0 (by decide) rfl kX3_stream_f10 rfl dX3_stream_45 ?_
  refine lv_iload_n hx hb dX3_stream_48 rfl (lv_at hl 2 rfl) ?_
  refine mr_callV (As := [.int (nI s0)]) C0 (ctX2_isOpen (I := I) (J := J) (q := p) (s0 := (nI s0)) hX.2.1) (cwV 1 C0.1.2.2.2.2 gX3_stream_X2_isOpen rfl rfl rfl (by decide +kernel) (by rw [hR]; exact ⟨Nat.le_of_ble_eq_true rfl, Nat.le_of_ble_eq_true rfl⟩)) hM hX.2.1.1.1 hX.2.1.1.2 rfl rfl hM hS rfl rfl rfl hl.1 (Nat.le_of_ble_eq_true rfl) dX3_stream_49 (by rw [hR]; exact ⟨Nat.zero_le _, Nat.zero_le _⟩) (fun H locs hM hS => ?_)
  refine lv_istore (lv' := [(4, .int (bI (fX2_isOpen I p (nI s0)))), (3, .ref (p + 4 + 5 * s0)), (0, .ref x), (1, .int (nI s0)), (2, .int (nI 1))]) hx hb dX3_stream_52 hl (by decide) rfl (fun ls hl => ?_)
  refine lv_iload_n hx hb dX3_stream_54 rfl (lv_at hl 4 rfl) ?_
  refine lv_tableIn (off := 52) (tgt := 107) hx hb dX3_stream_55 (by decide) (by decide) (by decide) (by decide) ?_
  refine lv_iload hx hb dX3_stream_107 (lv_at hl 0 rfl) ?_
  refine mr_eqB (tgt := 124) C0 dX3_stream_109 (by decide) (fun c4 => ?_) (fun c4 => ?_)
  · skip
    refine lv_iconst (v := nI 0) hx hb dX3_stream_124 (by decide) ?_
    have eF : nI 0 = fX3_stream_1 I p c s0 := by unfold fX3_stream_1; rw [if_neg (Bool.eq_false_iff.mp c4)]
    exact mr_iret (v := nI 0) C0 hr hlk hQ hS (by rw [← eF]) hM (Nat.le_refl _) (Nat.le_refl _) dX3_stream_125
  · skip
    refine lv_aload_n hx hb dX3_stream_112 rfl (lv_at hl 2 rfl) ?_
    refine mr_getr (r := p) (TT := TX3) (N := 7) C0 uX3_stream_X3 hM hX.1.1 hX.1.2 rfl 0 (by decide) rfl kX3_stream_f10 rfl dX3_stream_113 ?_
    refine mr_getr (r := p + 1) (TT := TX2) (N := 10) C0 uX3_stream_X2 hM hX.2.1.1.1 hX.2.1.1.2 rfl 1 (by decide) rfl kX3_stream_f82 rfl dX3_stream_116 ?_
    refine lv_iload_n hx hb dX3_stream_119 rfl (lv_at hl 3 rfl) ?_
    refine mr_ialdN (v := I (p + 1) s0) C0 hM hX.2.1.2.1.1 hX.2.1.2.1.2 (by decide) (by omega) rfl dX3_stream_120 ?_
    refine lv_goto (tgt := 125) hx hb dX3_stream_121 (by decide) ?_
    have eF : I (p + 1) s0 = fX3_stream_1 I p c s0 := by unfold fX3_stream_1; rw [if_pos c4]
    exact mr_iret (v := I (p + 1) s0) C0 hr hlk hQ hS (by rw [← eF]) hM (Nat.le_refl _) (Nat.le_refl _) dX3_stream_125
def fX3_stream_2 (I : hm_I) (p : Nat) (c : Nat → Nat) (s0 : Nat) : Int32 :=
  if fX2_isOpen I p (nI s0) = true then I (p + 2) s0 else nI 0
set_option maxHeartbeats 4000000 in
set_option maxRecDepth 100000 in
theorem ctX3_stream_2 {l : Launch} {D : va_G} {T : Nat → ClassId} {L : List Nat} {A : Nat → Prop} {Sh : hm_S} {I : hm_I} {J : hm_J} {x p f h m k j : Nat} {hs im : Nat → Nat} (hX : IsX L Sh x p f h m k j hs im) (hA : ApX x p f h m k j hs im) {c : Nat → Nat} {e : Nat → Nat → Nat} {ec lc : Nat} (hW : WfS I p c e ec lc) {s0 : Nat} (hs0 : s0 < 8) :
    Ct l yX3_stream wsX3_stream { frames := 2, cells := 0, slots := 0, locals := 42 } 0 0 D T A [.ref x, .int (nI s0), .int (nI 2)] (hm D T L A Sh I J) (some (.int (fX3_stream_2 I p c s0))) (hm D T L A Sh I J) := by
  refine Ct.ofW (cc := cX3_stream) (maxL := 5) (ret := (some .int)) (by decide) rfl (Nat.le_of_ble_eq_true rfl) ?_
  intro p_ e_ s_ m_ args_ below_ meth_ c_ ls R Qq hR hQ C0 hr hlk hname hM hl
  have hx := C0.1.1
  have hb := C0.1.2.1
  have hS : va_S A s_.heap s_.heap [] := va_S.rf
  have hl : lv_has ls 5 [(0, .ref x), (1, .int (nI s0)), (2, .int (nI 2))] := hl
  refine lv_iload_n hx hb dX3_stream_0 rfl (lv_at hl 1 rfl) ?_
  refine mr_callS (As := [.int (nI s0)]) C0 (ctX3_isStream_t (I := I) (J := J) (s0 := s0) (by omega)) (va_cwS 1 C0.1.2.2.2.2 gX3_stream_X3_isStream rfl rfl rfl (by decide +kernel) (by rw [hR]; exact ⟨Nat.le_of_ble_eq_true rfl, Nat.le_of_ble_eq_true rfl⟩)) hM hS rfl rfl rfl hl.1 (Nat.le_of_ble_eq_true rfl) dX3_stream_1 (by rw [hR]; exact ⟨Nat.zero_le _, Nat.zero_le _⟩) (fun H locs hM hS => ?_)
  refine mr_eqB (tgt := 17) C0 dX3_stream_4 (by decide) (fun c1 => absurd c1 (by decide)) (fun _ => ?_)
  refine lv_iload_n hx hb dX3_stream_7 rfl (lv_at hl 2 rfl) ?_
  refine lv_iconst (v := nI 0) hx hb dX3_stream_8 (by decide) ?_
  refine lv_bipush (v := nI 7) hx hb dX3_stream_9 (by decide) ?_
  refine mr_callS (As := [.int (nI 2), .int (nI 0), .int (nI 7)]) C0 (ctX3_isWithin (I := I) (J := J) (v := (nI 2)) (lo := (nI 0)) (up := (nI 7)) ) (va_cwS 3 C0.1.2.2.2.2 gX3_stream_X3_isWithin rfl rfl rfl (by decide +kernel) (by rw [hR]; exact ⟨Nat.le_of_ble_eq_true rfl, Nat.le_of_ble_eq_true rfl⟩)) hM hS rfl rfl rfl hl.1 (Nat.le_of_ble_eq_true rfl) dX3_stream_11 (by rw [hR]; exact ⟨Nat.zero_le _, Nat.zero_le _⟩) (fun H locs hM hS => ?_)
  refine mr_neB (tgt := 19) C0 dX3_stream_14 (by decide) (fun c2 => ?_) (fun c2 => absurd c2 (by decide))
  refine lv_aload_n hx hb dX3_stream_19 rfl (lv_at hl 0 rfl) ?_
  refine mr_getr (r := p) (TT := TX3) (N := 7) C0 uX3_stream_X3 hM hX.1.1 hX.1.2 rfl 0 (by decide) rfl kX3_stream_f10 rfl dX3_stream_20 ?_
  refine mr_getr (r := p + 3) (TT := TX2) (N := 10) C0 uX3_stream_X2 hM hX.2.1.1.1 hX.2.1.1.2 rfl 3 (by decide) rfl kX3_stream_f65 rfl dX3_stream_23 ?_
  refine lv_iload_n hx hb dX3_stream_26 rfl (lv_at hl 1 rfl) ?_
  refine mr_aald (t := 0) (C := RX0) (r := p + 4 + 5 * s0) C0 hM hX.2.1.2.2.2.1.1 hX.2.1.2.2.2.1.2 rfl (by decide) (by omega) rfl dX3_stream_27 ?_
  refine lv_astore_n (lv' := [(3, .ref (p + 4 + 5 * s0)), (0, .ref x), (1, .int (nI s0)), (2, .int (nI 2))]) hx hb dX3_stream_28 rfl hl (by decide) rfl (fun ls hl => ?_)
  refine lv_iload_n hx hb dX3_stream_29 rfl (lv_at hl 3 rfl) ?_
  refine lv_iconst (v := nI 5) hx hb dX3_stream_30 (by decide) ?_
  refine mr_ltN (x := 2) (y := 5) (tgt := 44) C0 dX3_stream_31 (by decide) (by decide) (by decide) (fun _ => ?_) (fun c3 => absurd c3 (by decide))
  refine lv_aload_n hx hb dX3_stream_44 rfl (lv_at hl 1 rfl) ?_
  refine mr_getr (r := p) (TT := TX3) (N := 7) C0 uX3_stream_X3 hM hX.1.1 hX.1.2 rfl 0 (by decide) rfl kX3_stream_f10 rfl dX3_stream_45 ?_
  refine lv_iload_n hx hb dX3_stream_48 rfl (lv_at hl 2 rfl) ?_
  refine mr_callV (As := [.int (nI s0)]) C0 (ctX2_isOpen (I := I) (J := J) (q := p) (s0 := (nI s0)) hX.2.1) (cwV 1 C0.1.2.2.2.2 gX3_stream_X2_isOpen rfl rfl rfl (by decide +kernel) (by rw [hR]; exact ⟨Nat.le_of_ble_eq_true rfl, Nat.le_of_ble_eq_true rfl⟩)) hM hX.2.1.1.1 hX.2.1.1.2 rfl rfl hM hS rfl rfl rfl hl.1 (Nat.le_of_ble_eq_true rfl) dX3_stream_49 (by rw [hR]; exact ⟨Nat.zero_le _, Nat.zero_le _⟩) (fun H locs hM hS => ?_)
  refine lv_istore (lv' := [(4, .int (bI (fX2_isOpen I p (nI s0)))), (3, .ref (p + 4 + 5 * s0)), (0, .ref x), (1, .int (nI s0)), (2, .int (nI 2))]) hx hb dX3_stream_52 hl (by decide) rfl (fun ls hl => ?_)
  refine lv_iload_n hx hb dX3_stream_54 rfl (lv_at hl 4 rfl) ?_
  refine lv_tableIn (off := 71) (tgt := 126) hx hb dX3_stream_55 (by decide) (by decide) (by decide) (by decide) ?_
  refine lv_iload hx hb dX3_stream_126 (lv_at hl 0 rfl) ?_
  refine mr_eqB (tgt := 143) C0 dX3_stream_128 (by decide) (fun c4 => ?_) (fun c4 => ?_)
  · skip
    refine lv_iconst (v := nI 0) hx hb dX3_stream_143 (by decide) ?_
    have eF : nI 0 = fX3_stream_2 I p c s0 := by unfold fX3_stream_2; rw [if_neg (Bool.eq_false_iff.mp c4)]
    exact mr_iret (v := nI 0) C0 hr hlk hQ hS (by rw [← eF]) hM (Nat.le_refl _) (Nat.le_refl _) dX3_stream_144
  · skip
    refine lv_aload_n hx hb dX3_stream_131 rfl (lv_at hl 2 rfl) ?_
    refine mr_getr (r := p) (TT := TX3) (N := 7) C0 uX3_stream_X3 hM hX.1.1 hX.1.2 rfl 0 (by decide) rfl kX3_stream_f10 rfl dX3_stream_132 ?_
    refine mr_getr (r := p + 2) (TT := TX2) (N := 10) C0 uX3_stream_X2 hM hX.2.1.1.1 hX.2.1.1.2 rfl 2 (by decide) rfl kX3_stream_f78 rfl dX3_stream_135 ?_
    refine lv_iload_n hx hb dX3_stream_138 rfl (lv_at hl 3 rfl) ?_
    refine mr_ialdN (v := I (p + 2) s0) C0 hM hX.2.1.2.2.1.1 hX.2.1.2.2.1.2 (by decide) (by omega) rfl dX3_stream_139 ?_
    refine lv_goto (tgt := 144) hx hb dX3_stream_140 (by decide) ?_
    have eF : I (p + 2) s0 = fX3_stream_2 I p c s0 := by unfold fX3_stream_2; rw [if_pos c4]
    exact mr_iret (v := I (p + 2) s0) C0 hr hlk hQ hS (by rw [← eF]) hM (Nat.le_refl _) (Nat.le_refl _) dX3_stream_144
def fX3_stream_3 (I : hm_I) (p : Nat) (c : Nat → Nat) (s0 : Nat) : Int32 :=
  nI (c s0)
set_option maxHeartbeats 4000000 in
set_option maxRecDepth 100000 in
theorem ctX3_stream_3 {l : Launch} {D : va_G} {T : Nat → ClassId} {L : List Nat} {A : Nat → Prop} {Sh : hm_S} {I : hm_I} {J : hm_J} {x p f h m k j : Nat} {hs im : Nat → Nat} (hX : IsX L Sh x p f h m k j hs im) (hA : ApX x p f h m k j hs im) {c : Nat → Nat} {e : Nat → Nat → Nat} {ec lc : Nat} (hW : WfS I p c e ec lc) {s0 : Nat} (hs0 : s0 < 8) :
    Ct l yX3_stream wsX3_stream { frames := 2, cells := 0, slots := 0, locals := 42 } 0 0 D T A [.ref x, .int (nI s0), .int (nI 3)] (hm D T L A Sh I J) (some (.int (fX3_stream_3 I p c s0))) (hm D T L A Sh I J) := by
  refine Ct.ofW (cc := cX3_stream) (maxL := 5) (ret := (some .int)) (by decide) rfl (Nat.le_of_ble_eq_true rfl) ?_
  intro p_ e_ s_ m_ args_ below_ meth_ c_ ls R Qq hR hQ C0 hr hlk hname hM hl
  have hx := C0.1.1
  have hb := C0.1.2.1
  have hS : va_S A s_.heap s_.heap [] := va_S.rf
  have hl : lv_has ls 5 [(0, .ref x), (1, .int (nI s0)), (2, .int (nI 3))] := hl
  refine lv_iload_n hx hb dX3_stream_0 rfl (lv_at hl 1 rfl) ?_
  refine mr_callS (As := [.int (nI s0)]) C0 (ctX3_isStream_t (I := I) (J := J) (s0 := s0) (by omega)) (va_cwS 1 C0.1.2.2.2.2 gX3_stream_X3_isStream rfl rfl rfl (by decide +kernel) (by rw [hR]; exact ⟨Nat.le_of_ble_eq_true rfl, Nat.le_of_ble_eq_true rfl⟩)) hM hS rfl rfl rfl hl.1 (Nat.le_of_ble_eq_true rfl) dX3_stream_1 (by rw [hR]; exact ⟨Nat.zero_le _, Nat.zero_le _⟩) (fun H locs hM hS => ?_)
  refine mr_eqB (tgt := 17) C0 dX3_stream_4 (by decide) (fun c1 => absurd c1 (by decide)) (fun _ => ?_)
  refine lv_iload_n hx hb dX3_stream_7 rfl (lv_at hl 2 rfl) ?_
  refine lv_iconst (v := nI 0) hx hb dX3_stream_8 (by decide) ?_
  refine lv_bipush (v := nI 7) hx hb dX3_stream_9 (by decide) ?_
  refine mr_callS (As := [.int (nI 3), .int (nI 0), .int (nI 7)]) C0 (ctX3_isWithin (I := I) (J := J) (v := (nI 3)) (lo := (nI 0)) (up := (nI 7)) ) (va_cwS 3 C0.1.2.2.2.2 gX3_stream_X3_isWithin rfl rfl rfl (by decide +kernel) (by rw [hR]; exact ⟨Nat.le_of_ble_eq_true rfl, Nat.le_of_ble_eq_true rfl⟩)) hM hS rfl rfl rfl hl.1 (Nat.le_of_ble_eq_true rfl) dX3_stream_11 (by rw [hR]; exact ⟨Nat.zero_le _, Nat.zero_le _⟩) (fun H locs hM hS => ?_)
  refine mr_neB (tgt := 19) C0 dX3_stream_14 (by decide) (fun c2 => ?_) (fun c2 => absurd c2 (by decide))
  refine lv_aload_n hx hb dX3_stream_19 rfl (lv_at hl 0 rfl) ?_
  refine mr_getr (r := p) (TT := TX3) (N := 7) C0 uX3_stream_X3 hM hX.1.1 hX.1.2 rfl 0 (by decide) rfl kX3_stream_f10 rfl dX3_stream_20 ?_
  refine mr_getr (r := p + 3) (TT := TX2) (N := 10) C0 uX3_stream_X2 hM hX.2.1.1.1 hX.2.1.1.2 rfl 3 (by decide) rfl kX3_stream_f65 rfl dX3_stream_23 ?_
  refine lv_iload_n hx hb dX3_stream_26 rfl (lv_at hl 1 rfl) ?_
  refine mr_aald (t := 0) (C := RX0) (r := p + 4 + 5 * s0) C0 hM hX.2.1.2.2.2.1.1 hX.2.1.2.2.2.1.2 rfl (by decide) (by omega) rfl dX3_stream_27 ?_
  refine lv_astore_n (lv' := [(3, .ref (p + 4 + 5 * s0)), (0, .ref x), (1, .int (nI s0)), (2, .int (nI 3))]) hx hb dX3_stream_28 rfl hl (by decide) rfl (fun ls hl => ?_)
  refine lv_iload_n hx hb dX3_stream_29 rfl (lv_at hl 3 rfl) ?_
  refine lv_iconst (v := nI 5) hx hb dX3_stream_30 (by decide) ?_
  refine mr_ltN (x := 3) (y := 5) (tgt := 44) C0 dX3_stream_31 (by decide) (by decide) (by decide) (fun _ => ?_) (fun c3 => absurd c3 (by decide))
  refine lv_aload_n hx hb dX3_stream_44 rfl (lv_at hl 1 rfl) ?_
  refine mr_getr (r := p) (TT := TX3) (N := 7) C0 uX3_stream_X3 hM hX.1.1 hX.1.2 rfl 0 (by decide) rfl kX3_stream_f10 rfl dX3_stream_45 ?_
  refine lv_iload_n hx hb dX3_stream_48 rfl (lv_at hl 2 rfl) ?_
  refine mr_callV (As := [.int (nI s0)]) C0 (ctX2_isOpen (I := I) (J := J) (q := p) (s0 := (nI s0)) hX.2.1) (cwV 1 C0.1.2.2.2.2 gX3_stream_X2_isOpen rfl rfl rfl (by decide +kernel) (by rw [hR]; exact ⟨Nat.le_of_ble_eq_true rfl, Nat.le_of_ble_eq_true rfl⟩)) hM hX.2.1.1.1 hX.2.1.1.2 rfl rfl hM hS rfl rfl rfl hl.1 (Nat.le_of_ble_eq_true rfl) dX3_stream_49 (by rw [hR]; exact ⟨Nat.zero_le _, Nat.zero_le _⟩) (fun H locs hM hS => ?_)
  refine lv_istore (lv' := [(4, .int (bI (fX2_isOpen I p (nI s0)))), (3, .ref (p + 4 + 5 * s0)), (0, .ref x), (1, .int (nI s0)), (2, .int (nI 3))]) hx hb dX3_stream_52 hl (by decide) rfl (fun ls hl => ?_)
  refine lv_iload_n hx hb dX3_stream_54 rfl (lv_at hl 4 rfl) ?_
  refine lv_tableIn (off := 90) (tgt := 145) hx hb dX3_stream_55 (by decide) (by decide) (by decide) (by decide) ?_
  refine lv_aload_n hx hb dX3_stream_145 rfl (lv_at hl 1 rfl) ?_
  have hw4 := hW.1 s0 (by omega)
  have hw4b := hw4.2
  refine mr_geti (v := nI (c s0)) (TT := TX0) (N := 5) C0 uX3_stream_X0 hM (hX.2.1.2.2.2.2.1 _ (by omega)).1.1 (hX.2.1.2.2.2.2.1 _ (by omega)).1.2 rfl 4 (by decide) rfl hw4.1 kX3_stream_f69 rfl dX3_stream_146 ?_
  have eF : nI (c s0) = fX3_stream_3 I p c s0 := rfl
  exact mr_iret (v := nI (c s0)) C0 hr hlk hQ hS (by rw [← eF]) hM (Nat.le_refl _) (Nat.le_refl _) dX3_stream_149
def fX3_stream_4 (I : hm_I) (p : Nat) (c : Nat → Nat) (s0 : Nat) : Int32 :=
  fX0_sizeOfAll I (p + 4 + 5 * s0) (c s0)
set_option maxHeartbeats 4000000 in
set_option maxRecDepth 100000 in
theorem ctX3_stream_4 {l : Launch} {D : va_G} {T : Nat → ClassId} {L : List Nat} {A : Nat → Prop} {Sh : hm_S} {I : hm_I} {J : hm_J} {x p f h m k j : Nat} {hs im : Nat → Nat} (hX : IsX L Sh x p f h m k j hs im) (hA : ApX x p f h m k j hs im) {c : Nat → Nat} {e : Nat → Nat → Nat} {ec lc : Nat} (hW : WfS I p c e ec lc) {s0 : Nat} (hs0 : s0 < 8) :
    Ct l yX3_stream wsX3_stream { frames := 2, cells := 0, slots := 0, locals := 42 } 0 0 D T A [.ref x, .int (nI s0), .int (nI 4)] (hm D T L A Sh I J) (some (.int (fX3_stream_4 I p c s0))) (hm D T L A Sh I J) := by
  refine Ct.ofW (cc := cX3_stream) (maxL := 5) (ret := (some .int)) (by decide) rfl (Nat.le_of_ble_eq_true rfl) ?_
  intro p_ e_ s_ m_ args_ below_ meth_ c_ ls R Qq hR hQ C0 hr hlk hname hM hl
  have hx := C0.1.1
  have hb := C0.1.2.1
  have hS : va_S A s_.heap s_.heap [] := va_S.rf
  have hl : lv_has ls 5 [(0, .ref x), (1, .int (nI s0)), (2, .int (nI 4))] := hl
  refine lv_iload_n hx hb dX3_stream_0 rfl (lv_at hl 1 rfl) ?_
  refine mr_callS (As := [.int (nI s0)]) C0 (ctX3_isStream_t (I := I) (J := J) (s0 := s0) (by omega)) (va_cwS 1 C0.1.2.2.2.2 gX3_stream_X3_isStream rfl rfl rfl (by decide +kernel) (by rw [hR]; exact ⟨Nat.le_of_ble_eq_true rfl, Nat.le_of_ble_eq_true rfl⟩)) hM hS rfl rfl rfl hl.1 (Nat.le_of_ble_eq_true rfl) dX3_stream_1 (by rw [hR]; exact ⟨Nat.zero_le _, Nat.zero_le _⟩) (fun H locs hM hS => ?_)
  refine mr_eqB (tgt := 17) C0 dX3_stream_4 (by decide) (fun c1 => absurd c1 (by decide)) (fun _ => ?_)
  refine lv_iload_n hx hb dX3_stream_7 rfl (lv_at hl 2 rfl) ?_
  refine lv_iconst (v := nI 0) hx hb dX3_stream_8 (by decide) ?_
  refine lv_bipush (v := nI 7) hx hb dX3_stream_9 (by decide) ?_
  refine mr_callS (As := [.int (nI 4), .int (nI 0), .int (nI 7)]) C0 (ctX3_isWithin (I := I) (J := J) (v := (nI 4)) (lo := (nI 0)) (up := (nI 7)) ) (va_cwS 3 C0.1.2.2.2.2 gX3_stream_X3_isWithin rfl rfl rfl (by decide +kernel) (by rw [hR]; exact ⟨Nat.le_of_ble_eq_true rfl, Nat.le_of_ble_eq_true rfl⟩)) hM hS rfl rfl rfl hl.1 (Nat.le_of_ble_eq_true rfl) dX3_stream_11 (by rw [hR]; exact ⟨Nat.zero_le _, Nat.zero_le _⟩) (fun H locs hM hS => ?_)
  refine mr_neB (tgt := 19) C0 dX3_stream_14 (by decide) (fun c2 => ?_) (fun c2 => absurd c2 (by decide))
  refine lv_aload_n hx hb dX3_stream_19 rfl (lv_at hl 0 rfl) ?_
  refine mr_getr (r := p) (TT := TX3) (N := 7) C0 uX3_stream_X3 hM hX.1.1 hX.1.2 rfl 0 (by decide) rfl kX3_stream_f10 rfl dX3_stream_20 ?_
  refine mr_getr (r := p + 3) (TT := TX2) (N := 10) C0 uX3_stream_X2 hM hX.2.1.1.1 hX.2.1.1.2 rfl 3 (by decide) rfl kX3_stream_f65 rfl dX3_stream_23 ?_
  refine lv_iload_n hx hb dX3_stream_26 rfl (lv_at hl 1 rfl) ?_
  refine mr_aald (t := 0) (C := RX0) (r := p + 4 + 5 * s0) C0 hM hX.2.1.2.2.2.1.1 hX.2.1.2.2.2.1.2 rfl (by decide) (by omega) rfl dX3_stream_27 ?_
  refine lv_astore_n (lv' := [(3, .ref (p + 4 + 5 * s0)), (0, .ref x), (1, .int (nI s0)), (2, .int (nI 4))]) hx hb dX3_stream_28 rfl hl (by decide) rfl (fun ls hl => ?_)
  refine lv_iload_n hx hb dX3_stream_29 rfl (lv_at hl 3 rfl) ?_
  refine lv_iconst (v := nI 5) hx hb dX3_stream_30 (by decide) ?_
  refine mr_ltN (x := 4) (y := 5) (tgt := 44) C0 dX3_stream_31 (by decide) (by decide) (by decide) (fun _ => ?_) (fun c3 => absurd c3 (by decide))
  refine lv_aload_n hx hb dX3_stream_44 rfl (lv_at hl 1 rfl) ?_
  refine mr_getr (r := p) (TT := TX3) (N := 7) C0 uX3_stream_X3 hM hX.1.1 hX.1.2 rfl 0 (by decide) rfl kX3_stream_f10 rfl dX3_stream_45 ?_
  refine lv_iload_n hx hb dX3_stream_48 rfl (lv_at hl 2 rfl) ?_
  refine mr_callV (As := [.int (nI s0)]) C0 (ctX2_isOpen (I := I) (J := J) (q := p) (s0 := (nI s0)) hX.2.1) (cwV 1 C0.1.2.2.2.2 gX3_stream_X2_isOpen rfl rfl rfl (by decide +kernel) (by rw [hR]; exact ⟨Nat.le_of_ble_eq_true rfl, Nat.le_of_ble_eq_true rfl⟩)) hM hX.2.1.1.1 hX.2.1.1.2 rfl rfl hM hS rfl rfl rfl hl.1 (Nat.le_of_ble_eq_true rfl) dX3_stream_49 (by rw [hR]; exact ⟨Nat.zero_le _, Nat.zero_le _⟩) (fun H locs hM hS => ?_)
  refine lv_istore (lv' := [(4, .int (bI (fX2_isOpen I p (nI s0)))), (3, .ref (p + 4 + 5 * s0)), (0, .ref x), (1, .int (nI s0)), (2, .int (nI 4))]) hx hb dX3_stream_52 hl (by decide) rfl (fun ls hl => ?_)
  refine lv_iload_n hx hb dX3_stream_54 rfl (lv_at hl 4 rfl) ?_
  refine lv_tableIn (off := 95) (tgt := 150) hx hb dX3_stream_55 (by decide) (by decide) (by decide) (by decide) ?_
  refine lv_aload_n hx hb dX3_stream_150 rfl (lv_at hl 1 rfl) ?_
  have hw4 := hW.1 s0 (by omega)
  have hw4b := hw4.2
  refine mr_callV (As := []) C0 (ctX0_sizeOfAll (I := I) (J := J) (a := (p + 4 + 5 * s0)) (hX.2.1.2.2.2.2.1 _ (by omega)) hw4.1 (by omega) (by omega)) (cwV 0 C0.1.2.2.2.2 gX3_stream_X0_sizeOfAll rfl rfl rfl (by decide +kernel) (by rw [hR]; exact ⟨Nat.le_of_ble_eq_true rfl, Nat.le_of_ble_eq_true rfl⟩)) hM (hX.2.1.2.2.2.2.1 _ (by omega)).1.1 (hX.2.1.2.2.2.2.1 _ (by omega)).1.2 rfl rfl hM hS rfl rfl rfl hl.1 (Nat.le_of_ble_eq_true rfl) dX3_stream_151 (by rw [hR]; exact ⟨Nat.zero_le _, Nat.zero_le _⟩) (fun H locs hM hS => ?_)
  have eF : fX0_sizeOfAll I (p + 4 + 5 * s0) (c s0) = fX3_stream_4 I p c s0 := rfl
  exact mr_iret (v := fX0_sizeOfAll I (p + 4 + 5 * s0) (c s0)) C0 hr hlk hQ hS (by rw [← eF]) hM (Nat.le_refl _) (Nat.le_refl _) dX3_stream_154
set_option maxHeartbeats 4000000 in
set_option maxRecDepth 100000 in
theorem ctX3_stream_n5 {l : Launch} {D : va_G} {T : Nat → ClassId} {L : List Nat} {A : Nat → Prop} {Sh : hm_S} {I : hm_I} {J : hm_J} {x p f h m k j : Nat} {hs im : Nat → Nat} (hX : IsX L Sh x p f h m k j hs im) (hA : ApX x p f h m k j hs im) {c : Nat → Nat} {e : Nat → Nat → Nat} {ec lc : Nat} (hW : WfS I p c e ec lc) {s0 : Nat} (hs0 : s0 < 8) (hc0 : c s0 = 0) :
    Ct l yX3_stream wsX3_stream { frames := 1, cells := 0, slots := 0, locals := 22 } 0 0 D T A [.ref x, .int (nI s0), .int (nI 5)] (hm D T L A Sh I J) (some (.int (-9))) (hm D T L A Sh I J) := by
  refine Ct.ofW (cc := cX3_stream) (maxL := 5) (ret := (some .int)) (by decide) rfl (Nat.le_of_ble_eq_true rfl) ?_
  intro p_ e_ s_ m_ args_ below_ meth_ c_ ls R Qq hR hQ C0 hr hlk hname hM hl
  have hx := C0.1.1
  have hb := C0.1.2.1
  have hS : va_S A s_.heap s_.heap [] := va_S.rf
  have hl : lv_has ls 5 [(0, .ref x), (1, .int (nI s0)), (2, .int (nI 5))] := hl
  have hec10 := hW.2.2.2.2.1
  have hec1 := hW.2.2.2.1
  refine lv_iload_n hx hb dX3_stream_0 rfl (lv_at hl 1 rfl) ?_
  refine mr_callS (As := [.int (nI s0)]) C0 (ctX3_isStream_t (I := I) (J := J) (s0 := s0) (by omega)) (va_cwS 1 C0.1.2.2.2.2 gX3_stream_X3_isStream rfl rfl rfl (by decide +kernel) (by rw [hR]; exact ⟨Nat.le_of_ble_eq_true rfl, Nat.le_of_ble_eq_true rfl⟩)) hM hS rfl rfl rfl hl.1 (Nat.le_of_ble_eq_true rfl) dX3_stream_1 (by rw [hR]; exact ⟨Nat.zero_le _, Nat.zero_le _⟩) (fun H locs hM hS => ?_)
  refine mr_eqB (tgt := 17) C0 dX3_stream_4 (by decide) (fun c1 => absurd c1 (by decide)) (fun _ => ?_)
  refine lv_iload_n hx hb dX3_stream_7 rfl (lv_at hl 2 rfl) ?_
  refine lv_iconst (v := nI 0) hx hb dX3_stream_8 (by decide) ?_
  refine lv_bipush (v := nI 7) hx hb dX3_stream_9 (by decide) ?_
  refine mr_callS (As := [.int (nI 5), .int (nI 0), .int (nI 7)]) C0 (ctX3_isWithin (I := I) (J := J) (v := (nI 5)) (lo := (nI 0)) (up := (nI 7)) ) (va_cwS 3 C0.1.2.2.2.2 gX3_stream_X3_isWithin rfl rfl rfl (by decide +kernel) (by rw [hR]; exact ⟨Nat.le_of_ble_eq_true rfl, Nat.le_of_ble_eq_true rfl⟩)) hM hS rfl rfl rfl hl.1 (Nat.le_of_ble_eq_true rfl) dX3_stream_11 (by rw [hR]; exact ⟨Nat.zero_le _, Nat.zero_le _⟩) (fun H locs hM hS => ?_)
  refine mr_neB (tgt := 19) C0 dX3_stream_14 (by decide) (fun c2 => ?_) (fun c2 => absurd c2 (by decide))
  refine lv_aload_n hx hb dX3_stream_19 rfl (lv_at hl 0 rfl) ?_
  refine mr_getr (r := p) (TT := TX3) (N := 7) C0 uX3_stream_X3 hM hX.1.1 hX.1.2 rfl 0 (by decide) rfl kX3_stream_f10 rfl dX3_stream_20 ?_
  refine mr_getr (r := p + 3) (TT := TX2) (N := 10) C0 uX3_stream_X2 hM hX.2.1.1.1 hX.2.1.1.2 rfl 3 (by decide) rfl kX3_stream_f65 rfl dX3_stream_23 ?_
  refine lv_iload_n hx hb dX3_stream_26 rfl (lv_at hl 1 rfl) ?_
  refine mr_aald (t := 0) (C := RX0) (r := p + 4 + 5 * s0) C0 hM hX.2.1.2.2.2.1.1 hX.2.1.2.2.2.1.2 rfl (by decide) (by omega) rfl dX3_stream_27 ?_
  refine lv_astore_n (lv' := [(3, .ref (p + 4 + 5 * s0)), (0, .ref x), (1, .int (nI s0)), (2, .int (nI 5))]) hx hb dX3_stream_28 rfl hl (by decide) rfl (fun ls hl => ?_)
  refine lv_iload_n hx hb dX3_stream_29 rfl (lv_at hl 3 rfl) ?_
  refine lv_iconst (v := nI 5) hx hb dX3_stream_30 (by decide) ?_
  refine mr_ltN (x := 5) (y := 5) (tgt := 44) C0 dX3_stream_31 (by decide) (by decide) (by decide) (fun c3 => absurd c3 (by decide)) (fun _ => ?_)
  refine lv_aload_n hx hb dX3_stream_34 rfl (lv_at hl 0 rfl) ?_
  have hw4 := hW.1 s0 (by omega)
  have hw4b := hw4.2
  refine mr_geti (v := nI (c s0)) (TT := TX0) (N := 5) C0 uX3_stream_X0 hM (hX.2.1.2.2.2.2.1 _ (by omega)).1.1 (hX.2.1.2.2.2.2.1 _ (by omega)).1.2 rfl 4 (by decide) rfl hw4.1 kX3_stream_f69 rfl dX3_stream_35 ?_
  refine mr_ne0N (x := (c s0)) (tgt := 44) C0 dX3_stream_38 (by decide) (by omega) (fun c5 => absurd c5 (by omega)) (fun c5 => ?_)
  refine lv_bipush (v := (-9)) hx hb dX3_stream_41 (by decide) ?_
  skip
  exact mr_iret (v := (-9)) C0 hr hlk hQ hS rfl hM (Nat.le_refl _) (Nat.le_refl _) dX3_stream_43
set_option maxHeartbeats 4000000 in
set_option maxRecDepth 100000 in
theorem ctX3_stream_n6 {l : Launch} {D : va_G} {T : Nat → ClassId} {L : List Nat} {A : Nat → Prop} {Sh : hm_S} {I : hm_I} {J : hm_J} {x p f h m k j : Nat} {hs im : Nat → Nat} (hX : IsX L Sh x p f h m k j hs im) (hA : ApX x p f h m k j hs im) {c : Nat → Nat} {e : Nat → Nat → Nat} {ec lc : Nat} (hW : WfS I p c e ec lc) {s0 : Nat} (hs0 : s0 < 8) (hc0 : c s0 = 0) :
    Ct l yX3_stream wsX3_stream { frames := 1, cells := 0, slots := 0, locals := 22 } 0 0 D T A [.ref x, .int (nI s0), .int (nI 6)] (hm D T L A Sh I J) (some (.int (-9))) (hm D T L A Sh I J) := by
  refine Ct.ofW (cc := cX3_stream) (maxL := 5) (ret := (some .int)) (by decide) rfl (Nat.le_of_ble_eq_true rfl) ?_
  intro p_ e_ s_ m_ args_ below_ meth_ c_ ls R Qq hR hQ C0 hr hlk hname hM hl
  have hx := C0.1.1
  have hb := C0.1.2.1
  have hS : va_S A s_.heap s_.heap [] := va_S.rf
  have hl : lv_has ls 5 [(0, .ref x), (1, .int (nI s0)), (2, .int (nI 6))] := hl
  have hec10 := hW.2.2.2.2.1
  have hec1 := hW.2.2.2.1
  refine lv_iload_n hx hb dX3_stream_0 rfl (lv_at hl 1 rfl) ?_
  refine mr_callS (As := [.int (nI s0)]) C0 (ctX3_isStream_t (I := I) (J := J) (s0 := s0) (by omega)) (va_cwS 1 C0.1.2.2.2.2 gX3_stream_X3_isStream rfl rfl rfl (by decide +kernel) (by rw [hR]; exact ⟨Nat.le_of_ble_eq_true rfl, Nat.le_of_ble_eq_true rfl⟩)) hM hS rfl rfl rfl hl.1 (Nat.le_of_ble_eq_true rfl) dX3_stream_1 (by rw [hR]; exact ⟨Nat.zero_le _, Nat.zero_le _⟩) (fun H locs hM hS => ?_)
  refine mr_eqB (tgt := 17) C0 dX3_stream_4 (by decide) (fun c1 => absurd c1 (by decide)) (fun _ => ?_)
  refine lv_iload_n hx hb dX3_stream_7 rfl (lv_at hl 2 rfl) ?_
  refine lv_iconst (v := nI 0) hx hb dX3_stream_8 (by decide) ?_
  refine lv_bipush (v := nI 7) hx hb dX3_stream_9 (by decide) ?_
  refine mr_callS (As := [.int (nI 6), .int (nI 0), .int (nI 7)]) C0 (ctX3_isWithin (I := I) (J := J) (v := (nI 6)) (lo := (nI 0)) (up := (nI 7)) ) (va_cwS 3 C0.1.2.2.2.2 gX3_stream_X3_isWithin rfl rfl rfl (by decide +kernel) (by rw [hR]; exact ⟨Nat.le_of_ble_eq_true rfl, Nat.le_of_ble_eq_true rfl⟩)) hM hS rfl rfl rfl hl.1 (Nat.le_of_ble_eq_true rfl) dX3_stream_11 (by rw [hR]; exact ⟨Nat.zero_le _, Nat.zero_le _⟩) (fun H locs hM hS => ?_)
  refine mr_neB (tgt := 19) C0 dX3_stream_14 (by decide) (fun c2 => ?_) (fun c2 => absurd c2 (by decide))
  refine lv_aload_n hx hb dX3_stream_19 rfl (lv_at hl 0 rfl) ?_
  refine mr_getr (r := p) (TT := TX3) (N := 7) C0 uX3_stream_X3 hM hX.1.1 hX.1.2 rfl 0 (by decide) rfl kX3_stream_f10 rfl dX3_stream_20 ?_
  refine mr_getr (r := p + 3) (TT := TX2) (N := 10) C0 uX3_stream_X2 hM hX.2.1.1.1 hX.2.1.1.2 rfl 3 (by decide) rfl kX3_stream_f65 rfl dX3_stream_23 ?_
  refine lv_iload_n hx hb dX3_stream_26 rfl (lv_at hl 1 rfl) ?_
  refine mr_aald (t := 0) (C := RX0) (r := p + 4 + 5 * s0) C0 hM hX.2.1.2.2.2.1.1 hX.2.1.2.2.2.1.2 rfl (by decide) (by omega) rfl dX3_stream_27 ?_
  refine lv_astore_n (lv' := [(3, .ref (p + 4 + 5 * s0)), (0, .ref x), (1, .int (nI s0)), (2, .int (nI 6))]) hx hb dX3_stream_28 rfl hl (by decide) rfl (fun ls hl => ?_)
  refine lv_iload_n hx hb dX3_stream_29 rfl (lv_at hl 3 rfl) ?_
  refine lv_iconst (v := nI 5) hx hb dX3_stream_30 (by decide) ?_
  refine mr_ltN (x := 6) (y := 5) (tgt := 44) C0 dX3_stream_31 (by decide) (by decide) (by decide) (fun c3 => absurd c3 (by decide)) (fun _ => ?_)
  refine lv_aload_n hx hb dX3_stream_34 rfl (lv_at hl 0 rfl) ?_
  have hw4 := hW.1 s0 (by omega)
  have hw4b := hw4.2
  refine mr_geti (v := nI (c s0)) (TT := TX0) (N := 5) C0 uX3_stream_X0 hM (hX.2.1.2.2.2.2.1 _ (by omega)).1.1 (hX.2.1.2.2.2.2.1 _ (by omega)).1.2 rfl 4 (by decide) rfl hw4.1 kX3_stream_f69 rfl dX3_stream_35 ?_
  refine mr_ne0N (x := (c s0)) (tgt := 44) C0 dX3_stream_38 (by decide) (by omega) (fun c5 => absurd c5 (by omega)) (fun c5 => ?_)
  refine lv_bipush (v := (-9)) hx hb dX3_stream_41 (by decide) ?_
  skip
  exact mr_iret (v := (-9)) C0 hr hlk hQ hS rfl hM (Nat.le_refl _) (Nat.le_refl _) dX3_stream_43
set_option maxHeartbeats 4000000 in
set_option maxRecDepth 100000 in
theorem ctX3_stream_n7 {l : Launch} {D : va_G} {T : Nat → ClassId} {L : List Nat} {A : Nat → Prop} {Sh : hm_S} {I : hm_I} {J : hm_J} {x p f h m k j : Nat} {hs im : Nat → Nat} (hX : IsX L Sh x p f h m k j hs im) (hA : ApX x p f h m k j hs im) {c : Nat → Nat} {e : Nat → Nat → Nat} {ec lc : Nat} (hW : WfS I p c e ec lc) {s0 : Nat} (hs0 : s0 < 8) (hc0 : c s0 = 0) :
    Ct l yX3_stream wsX3_stream { frames := 1, cells := 0, slots := 0, locals := 22 } 0 0 D T A [.ref x, .int (nI s0), .int (nI 7)] (hm D T L A Sh I J) (some (.int (-9))) (hm D T L A Sh I J) := by
  refine Ct.ofW (cc := cX3_stream) (maxL := 5) (ret := (some .int)) (by decide) rfl (Nat.le_of_ble_eq_true rfl) ?_
  intro p_ e_ s_ m_ args_ below_ meth_ c_ ls R Qq hR hQ C0 hr hlk hname hM hl
  have hx := C0.1.1
  have hb := C0.1.2.1
  have hS : va_S A s_.heap s_.heap [] := va_S.rf
  have hl : lv_has ls 5 [(0, .ref x), (1, .int (nI s0)), (2, .int (nI 7))] := hl
  have hec10 := hW.2.2.2.2.1
  have hec1 := hW.2.2.2.1
  refine lv_iload_n hx hb dX3_stream_0 rfl (lv_at hl 1 rfl) ?_
  refine mr_callS (As := [.int (nI s0)]) C0 (ctX3_isStream_t (I := I) (J := J) (s0 := s0) (by omega)) (va_cwS 1 C0.1.2.2.2.2 gX3_stream_X3_isStream rfl rfl rfl (by decide +kernel) (by rw [hR]; exact ⟨Nat.le_of_ble_eq_true rfl, Nat.le_of_ble_eq_true rfl⟩)) hM hS rfl rfl rfl hl.1 (Nat.le_of_ble_eq_true rfl) dX3_stream_1 (by rw [hR]; exact ⟨Nat.zero_le _, Nat.zero_le _⟩) (fun H locs hM hS => ?_)
  refine mr_eqB (tgt := 17) C0 dX3_stream_4 (by decide) (fun c1 => absurd c1 (by decide)) (fun _ => ?_)
  refine lv_iload_n hx hb dX3_stream_7 rfl (lv_at hl 2 rfl) ?_
  refine lv_iconst (v := nI 0) hx hb dX3_stream_8 (by decide) ?_
  refine lv_bipush (v := nI 7) hx hb dX3_stream_9 (by decide) ?_
  refine mr_callS (As := [.int (nI 7), .int (nI 0), .int (nI 7)]) C0 (ctX3_isWithin (I := I) (J := J) (v := (nI 7)) (lo := (nI 0)) (up := (nI 7)) ) (va_cwS 3 C0.1.2.2.2.2 gX3_stream_X3_isWithin rfl rfl rfl (by decide +kernel) (by rw [hR]; exact ⟨Nat.le_of_ble_eq_true rfl, Nat.le_of_ble_eq_true rfl⟩)) hM hS rfl rfl rfl hl.1 (Nat.le_of_ble_eq_true rfl) dX3_stream_11 (by rw [hR]; exact ⟨Nat.zero_le _, Nat.zero_le _⟩) (fun H locs hM hS => ?_)
  refine mr_neB (tgt := 19) C0 dX3_stream_14 (by decide) (fun c2 => ?_) (fun c2 => absurd c2 (by decide))
  refine lv_aload_n hx hb dX3_stream_19 rfl (lv_at hl 0 rfl) ?_
  refine mr_getr (r := p) (TT := TX3) (N := 7) C0 uX3_stream_X3 hM hX.1.1 hX.1.2 rfl 0 (by decide) rfl kX3_stream_f10 rfl dX3_stream_20 ?_
  refine mr_getr (r := p + 3) (TT := TX2) (N := 10) C0 uX3_stream_X2 hM hX.2.1.1.1 hX.2.1.1.2 rfl 3 (by decide) rfl kX3_stream_f65 rfl dX3_stream_23 ?_
  refine lv_iload_n hx hb dX3_stream_26 rfl (lv_at hl 1 rfl) ?_
  refine mr_aald (t := 0) (C := RX0) (r := p + 4 + 5 * s0) C0 hM hX.2.1.2.2.2.1.1 hX.2.1.2.2.2.1.2 rfl (by decide) (by omega) rfl dX3_stream_27 ?_
  refine lv_astore_n (lv' := [(3, .ref (p + 4 + 5 * s0)), (0, .ref x), (1, .int (nI s0)), (2, .int (nI 7))]) hx hb dX3_stream_28 rfl hl (by decide) rfl (fun ls hl => ?_)
  refine lv_iload_n hx hb dX3_stream_29 rfl (lv_at hl 3 rfl) ?_
  refine lv_iconst (v := nI 5) hx hb dX3_stream_30 (by decide) ?_
  refine mr_ltN (x := 7) (y := 5) (tgt := 44) C0 dX3_stream_31 (by decide) (by decide) (by decide) (fun c3 => absurd c3 (by decide)) (fun _ => ?_)
  refine lv_aload_n hx hb dX3_stream_34 rfl (lv_at hl 0 rfl) ?_
  have hw4 := hW.1 s0 (by omega)
  have hw4b := hw4.2
  refine mr_geti (v := nI (c s0)) (TT := TX0) (N := 5) C0 uX3_stream_X0 hM (hX.2.1.2.2.2.2.1 _ (by omega)).1.1 (hX.2.1.2.2.2.2.1 _ (by omega)).1.2 rfl 4 (by decide) rfl hw4.1 kX3_stream_f69 rfl dX3_stream_35 ?_
  refine mr_ne0N (x := (c s0)) (tgt := 44) C0 dX3_stream_38 (by decide) (by omega) (fun c5 => absurd c5 (by omega)) (fun c5 => ?_)
  refine lv_bipush (v := (-9)) hx hb dX3_stream_41 (by decide) ?_
  skip
  exact mr_iret (v := (-9)) C0 hr hlk hQ hS rfl hM (Nat.le_refl _) (Nat.le_refl _) dX3_stream_43
def fX3_stream_5 (I : hm_I) (p : Nat) (c : Nat → Nat) (e : Nat → Nat → Nat) (s0 : Nat) : Int32 :=
  if fX2_isCandidate_t I p c e s0 = true then nI 1 else nI 0
set_option maxHeartbeats 4000000 in
set_option maxRecDepth 100000 in
theorem ctX3_stream_5 {l : Launch} {D : va_G} {T : Nat → ClassId} {L : List Nat} {A : Nat → Prop} {Sh : hm_S} {I : hm_I} {J : hm_J} {x p f h m k j : Nat} {hs im : Nat → Nat} (hX : IsX L Sh x p f h m k j hs im) (hA : ApX x p f h m k j hs im) {c : Nat → Nat} {e : Nat → Nat → Nat} {ec lc : Nat} (hW : WfS I p c e ec lc) {s0 : Nat} (hs0 : s0 < 8) (hc0 : 0 < c s0) :
    Ct l yX3_stream wsX3_stream { frames := 4, cells := 0, slots := 0, locals := 89 } 0 0 D T A [.ref x, .int (nI s0), .int (nI 5)] (hm D T L A Sh I J) (some (.int (fX3_stream_5 I p c e s0))) (hm D T L A Sh I J) := by
  refine Ct.ofW (cc := cX3_stream) (maxL := 5) (ret := (some .int)) (by decide) rfl (Nat.le_of_ble_eq_true rfl) ?_
  intro p_ e_ s_ m_ args_ below_ meth_ c_ ls R Qq hR hQ C0 hr hlk hname hM hl
  have hx := C0.1.1
  have hb := C0.1.2.1
  have hS : va_S A s_.heap s_.heap [] := va_S.rf
  have hl : lv_has ls 5 [(0, .ref x), (1, .int (nI s0)), (2, .int (nI 5))] := hl
  refine lv_iload_n hx hb dX3_stream_0 rfl (lv_at hl 1 rfl) ?_
  refine mr_callS (As := [.int (nI s0)]) C0 (ctX3_isStream_t (I := I) (J := J) (s0 := s0) (by omega)) (va_cwS 1 C0.1.2.2.2.2 gX3_stream_X3_isStream rfl rfl rfl (by decide +kernel) (by rw [hR]; exact ⟨Nat.le_of_ble_eq_true rfl, Nat.le_of_ble_eq_true rfl⟩)) hM hS rfl rfl rfl hl.1 (Nat.le_of_ble_eq_true rfl) dX3_stream_1 (by rw [hR]; exact ⟨Nat.zero_le _, Nat.zero_le _⟩) (fun H locs hM hS => ?_)
  refine mr_eqB (tgt := 17) C0 dX3_stream_4 (by decide) (fun c1 => absurd c1 (by decide)) (fun _ => ?_)
  refine lv_iload_n hx hb dX3_stream_7 rfl (lv_at hl 2 rfl) ?_
  refine lv_iconst (v := nI 0) hx hb dX3_stream_8 (by decide) ?_
  refine lv_bipush (v := nI 7) hx hb dX3_stream_9 (by decide) ?_
  refine mr_callS (As := [.int (nI 5), .int (nI 0), .int (nI 7)]) C0 (ctX3_isWithin (I := I) (J := J) (v := (nI 5)) (lo := (nI 0)) (up := (nI 7)) ) (va_cwS 3 C0.1.2.2.2.2 gX3_stream_X3_isWithin rfl rfl rfl (by decide +kernel) (by rw [hR]; exact ⟨Nat.le_of_ble_eq_true rfl, Nat.le_of_ble_eq_true rfl⟩)) hM hS rfl rfl rfl hl.1 (Nat.le_of_ble_eq_true rfl) dX3_stream_11 (by rw [hR]; exact ⟨Nat.zero_le _, Nat.zero_le _⟩) (fun H locs hM hS => ?_)
  refine mr_neB (tgt := 19) C0 dX3_stream_14 (by decide) (fun c2 => ?_) (fun c2 => absurd c2 (by decide))
  refine lv_aload_n hx hb dX3_stream_19 rfl (lv_at hl 0 rfl) ?_
  refine mr_getr (r := p) (TT := TX3) (N := 7) C0 uX3_stream_X3 hM hX.1.1 hX.1.2 rfl 0 (by decide) rfl kX3_stream_f10 rfl dX3_stream_20 ?_
  refine mr_getr (r := p + 3) (TT := TX2) (N := 10) C0 uX3_stream_X2 hM hX.2.1.1.1 hX.2.1.1.2 rfl 3 (by decide) rfl kX3_stream_f65 rfl dX3_stream_23 ?_
  refine lv_iload_n hx hb dX3_stream_26 rfl (lv_at hl 1 rfl) ?_
  refine mr_aald (t := 0) (C := RX0) (r := p + 4 + 5 * s0) C0 hM hX.2.1.2.2.2.1.1 hX.2.1.2.2.2.1.2 rfl (by decide) (by omega) rfl dX3_stream_27 ?_
  refine lv_astore_n (lv' := [(3, .ref (p + 4 + 5 * s0)), (0, .ref x), (1, .int (nI s0)), (2, .int (nI 5))]) hx hb dX3_stream_28 rfl hl (by decide) rfl (fun ls hl => ?_)
  refine lv_iload_n hx hb dX3_stream_29 rfl (lv_at hl 3 rfl) ?_
  refine lv_iconst (v := nI 5) hx hb dX3_stream_30 (by decide) ?_
  refine mr_ltN (x := 5) (y := 5) (tgt := 44) C0 dX3_stream_31 (by decide) (by decide) (by decide) (fun c3 => absurd c3 (by decide)) (fun _ => ?_)
  refine lv_aload_n hx hb dX3_stream_34 rfl (lv_at hl 0 rfl) ?_
  have hw4 := hW.1 s0 (by omega)
  have hw4b := hw4.2
  refine mr_geti (v := nI (c s0)) (TT := TX0) (N := 5) C0 uX3_stream_X0 hM (hX.2.1.2.2.2.2.1 _ (by omega)).1.1 (hX.2.1.2.2.2.2.1 _ (by omega)).1.2 rfl 4 (by decide) rfl hw4.1 kX3_stream_f69 rfl dX3_stream_35 ?_
  refine mr_ne0N (x := (c s0)) (tgt := 44) C0 dX3_stream_38 (by decide) (by omega) (fun c5 => ?_) (fun c5 => absurd c5 (by omega))
  refine lv_aload_n hx hb dX3_stream_44 rfl (lv_at hl 1 rfl) ?_
  refine mr_getr (r := p) (TT := TX3) (N := 7) C0 uX3_stream_X3 hM hX.1.1 hX.1.2 rfl 0 (by decide) rfl kX3_stream_f10 rfl dX3_stream_45 ?_
  refine lv_iload_n hx hb dX3_stream_48 rfl (lv_at hl 2 rfl) ?_
  refine mr_callV (As := [.int (nI s0)]) C0 (ctX2_isOpen (I := I) (J := J) (q := p) (s0 := (nI s0)) hX.2.1) (cwV 1 C0.1.2.2.2.2 gX3_stream_X2_isOpen rfl rfl rfl (by decide +kernel) (by rw [hR]; exact ⟨Nat.le_of_ble_eq_true rfl, Nat.le_of_ble_eq_true rfl⟩)) hM hX.2.1.1.1 hX.2.1.1.2 rfl rfl hM hS rfl rfl rfl hl.1 (Nat.le_of_ble_eq_true rfl) dX3_stream_49 (by rw [hR]; exact ⟨Nat.zero_le _, Nat.zero_le _⟩) (fun H locs hM hS => ?_)
  refine lv_istore (lv' := [(4, .int (bI (fX2_isOpen I p (nI s0)))), (3, .ref (p + 4 + 5 * s0)), (0, .ref x), (1, .int (nI s0)), (2, .int (nI 5))]) hx hb dX3_stream_52 hl (by decide) rfl (fun ls hl => ?_)
  refine lv_iload_n hx hb dX3_stream_54 rfl (lv_at hl 4 rfl) ?_
  refine lv_tableIn (off := 100) (tgt := 155) hx hb dX3_stream_55 (by decide) (by decide) (by decide) (by decide) ?_
  refine lv_aload_n hx hb dX3_stream_155 rfl (lv_at hl 2 rfl) ?_
  refine mr_getr (r := p) (TT := TX3) (N := 7) C0 uX3_stream_X3 hM hX.1.1 hX.1.2 rfl 0 (by decide) rfl kX3_stream_f10 rfl dX3_stream_156 ?_
  refine lv_iload_n hx hb dX3_stream_159 rfl (lv_at hl 3 rfl) ?_
  refine mr_callV (As := [.int (nI s0)]) C0 (ctX2_isCandidate_t (I := I) (J := J) (q := p) (s0 := s0) hX.2.1 hW (by omega)) (cwV 1 C0.1.2.2.2.2 gX3_stream_X2_isCandidate rfl rfl rfl (by decide +kernel) (by rw [hR]; exact ⟨Nat.le_of_ble_eq_true rfl, Nat.le_of_ble_eq_true rfl⟩)) hM hX.2.1.1.1 hX.2.1.1.2 rfl rfl hM hS rfl rfl rfl hl.1 (Nat.le_of_ble_eq_true rfl) dX3_stream_160 (by rw [hR]; exact ⟨Nat.zero_le _, Nat.zero_le _⟩) (fun H locs hM hS => ?_)
  refine mr_eqB (tgt := 170) C0 dX3_stream_163 (by decide) (fun c6 => ?_) (fun c6 => ?_)
  · skip
    refine lv_iconst (v := nI 0) hx hb dX3_stream_170 (by decide) ?_
    have eF : nI 0 = fX3_stream_5 I p c e s0 := by unfold fX3_stream_5; rw [if_neg (Bool.eq_false_iff.mp c6)]
    exact mr_iret (v := nI 0) C0 hr hlk hQ hS (by rw [← eF]) hM (Nat.le_refl _) (Nat.le_refl _) dX3_stream_171
  · skip
    refine lv_iconst (v := nI 1) hx hb dX3_stream_166 (by decide) ?_
    refine lv_goto (tgt := 171) hx hb dX3_stream_167 (by decide) ?_
    have eF : nI 1 = fX3_stream_5 I p c e s0 := by unfold fX3_stream_5; rw [if_pos c6]
    exact mr_iret (v := nI 1) C0 hr hlk hQ hS (by rw [← eF]) hM (Nat.le_refl _) (Nat.le_refl _) dX3_stream_171
set_option maxHeartbeats 4000000 in
set_option maxRecDepth 100000 in
theorem ctX3_stream_6 {l : Launch} {D : va_G} {T : Nat → ClassId} {L : List Nat} {A : Nat → Prop} {Sh : hm_S} {I : hm_I} {J : hm_J} {x p f h m k j : Nat} {hs im : Nat → Nat} (hX : IsX L Sh x p f h m k j hs im) (hA : ApX x p f h m k j hs im) {c : Nat → Nat} {e : Nat → Nat → Nat} {ec lc : Nat} (hW : WfS I p c e ec lc) {s0 : Nat} (hs0 : s0 < 8) (hc0 : 0 < c s0) :
    Ct l yX3_stream wsX3_stream { frames := 3, cells := 0, slots := 0, locals := 68 } 0 0 D T A [.ref x, .int (nI s0), .int (nI 6)] (hm D T L A Sh I J) (some (.int (fX2_blockersOfFirst_t I p c e s0))) (hm D T L A Sh I J) := by
  refine Ct.ofW (cc := cX3_stream) (maxL := 5) (ret := (some .int)) (by decide) rfl (Nat.le_of_ble_eq_true rfl) ?_
  intro p_ e_ s_ m_ args_ below_ meth_ c_ ls R Qq hR hQ C0 hr hlk hname hM hl
  have hx := C0.1.1
  have hb := C0.1.2.1
  have hS : va_S A s_.heap s_.heap [] := va_S.rf
  have hl : lv_has ls 5 [(0, .ref x), (1, .int (nI s0)), (2, .int (nI 6))] := hl
  have hec10 := hW.2.2.2.2.1
  have hec1 := hW.2.2.2.1
  refine lv_iload_n hx hb dX3_stream_0 rfl (lv_at hl 1 rfl) ?_
  refine mr_callS (As := [.int (nI s0)]) C0 (ctX3_isStream_t (I := I) (J := J) (s0 := s0) (by omega)) (va_cwS 1 C0.1.2.2.2.2 gX3_stream_X3_isStream rfl rfl rfl (by decide +kernel) (by rw [hR]; exact ⟨Nat.le_of_ble_eq_true rfl, Nat.le_of_ble_eq_true rfl⟩)) hM hS rfl rfl rfl hl.1 (Nat.le_of_ble_eq_true rfl) dX3_stream_1 (by rw [hR]; exact ⟨Nat.zero_le _, Nat.zero_le _⟩) (fun H locs hM hS => ?_)
  refine mr_eqB (tgt := 17) C0 dX3_stream_4 (by decide) (fun c1 => absurd c1 (by decide)) (fun _ => ?_)
  refine lv_iload_n hx hb dX3_stream_7 rfl (lv_at hl 2 rfl) ?_
  refine lv_iconst (v := nI 0) hx hb dX3_stream_8 (by decide) ?_
  refine lv_bipush (v := nI 7) hx hb dX3_stream_9 (by decide) ?_
  refine mr_callS (As := [.int (nI 6), .int (nI 0), .int (nI 7)]) C0 (ctX3_isWithin (I := I) (J := J) (v := (nI 6)) (lo := (nI 0)) (up := (nI 7)) ) (va_cwS 3 C0.1.2.2.2.2 gX3_stream_X3_isWithin rfl rfl rfl (by decide +kernel) (by rw [hR]; exact ⟨Nat.le_of_ble_eq_true rfl, Nat.le_of_ble_eq_true rfl⟩)) hM hS rfl rfl rfl hl.1 (Nat.le_of_ble_eq_true rfl) dX3_stream_11 (by rw [hR]; exact ⟨Nat.zero_le _, Nat.zero_le _⟩) (fun H locs hM hS => ?_)
  refine mr_neB (tgt := 19) C0 dX3_stream_14 (by decide) (fun c2 => ?_) (fun c2 => absurd c2 (by decide))
  refine lv_aload_n hx hb dX3_stream_19 rfl (lv_at hl 0 rfl) ?_
  refine mr_getr (r := p) (TT := TX3) (N := 7) C0 uX3_stream_X3 hM hX.1.1 hX.1.2 rfl 0 (by decide) rfl kX3_stream_f10 rfl dX3_stream_20 ?_
  refine mr_getr (r := p + 3) (TT := TX2) (N := 10) C0 uX3_stream_X2 hM hX.2.1.1.1 hX.2.1.1.2 rfl 3 (by decide) rfl kX3_stream_f65 rfl dX3_stream_23 ?_
  refine lv_iload_n hx hb dX3_stream_26 rfl (lv_at hl 1 rfl) ?_
  refine mr_aald (t := 0) (C := RX0) (r := p + 4 + 5 * s0) C0 hM hX.2.1.2.2.2.1.1 hX.2.1.2.2.2.1.2 rfl (by decide) (by omega) rfl dX3_stream_27 ?_
  refine lv_astore_n (lv' := [(3, .ref (p + 4 + 5 * s0)), (0, .ref x), (1, .int (nI s0)), (2, .int (nI 6))]) hx hb dX3_stream_28 rfl hl (by decide) rfl (fun ls hl => ?_)
  refine lv_iload_n hx hb dX3_stream_29 rfl (lv_at hl 3 rfl) ?_
  refine lv_iconst (v := nI 5) hx hb dX3_stream_30 (by decide) ?_
  refine mr_ltN (x := 6) (y := 5) (tgt := 44) C0 dX3_stream_31 (by decide) (by decide) (by decide) (fun c3 => absurd c3 (by decide)) (fun _ => ?_)
  refine lv_aload_n hx hb dX3_stream_34 rfl (lv_at hl 0 rfl) ?_
  have hw4 := hW.1 s0 (by omega)
  have hw4b := hw4.2
  refine mr_geti (v := nI (c s0)) (TT := TX0) (N := 5) C0 uX3_stream_X0 hM (hX.2.1.2.2.2.2.1 _ (by omega)).1.1 (hX.2.1.2.2.2.2.1 _ (by omega)).1.2 rfl 4 (by decide) rfl hw4.1 kX3_stream_f69 rfl dX3_stream_35 ?_
  refine mr_ne0N (x := (c s0)) (tgt := 44) C0 dX3_stream_38 (by decide) (by omega) (fun c5 => ?_) (fun c5 => absurd c5 (by omega))
  refine lv_aload_n hx hb dX3_stream_44 rfl (lv_at hl 1 rfl) ?_
  refine mr_getr (r := p) (TT := TX3) (N := 7) C0 uX3_stream_X3 hM hX.1.1 hX.1.2 rfl 0 (by decide) rfl kX3_stream_f10 rfl dX3_stream_45 ?_
  refine lv_iload_n hx hb dX3_stream_48 rfl (lv_at hl 2 rfl) ?_
  refine mr_callV (As := [.int (nI s0)]) C0 (ctX2_isOpen (I := I) (J := J) (q := p) (s0 := (nI s0)) hX.2.1) (cwV 1 C0.1.2.2.2.2 gX3_stream_X2_isOpen rfl rfl rfl (by decide +kernel) (by rw [hR]; exact ⟨Nat.le_of_ble_eq_true rfl, Nat.le_of_ble_eq_true rfl⟩)) hM hX.2.1.1.1 hX.2.1.1.2 rfl rfl hM hS rfl rfl rfl hl.1 (Nat.le_of_ble_eq_true rfl) dX3_stream_49 (by rw [hR]; exact ⟨Nat.zero_le _, Nat.zero_le _⟩) (fun H locs hM hS => ?_)
  refine lv_istore (lv' := [(4, .int (bI (fX2_isOpen I p (nI s0)))), (3, .ref (p + 4 + 5 * s0)), (0, .ref x), (1, .int (nI s0)), (2, .int (nI 6))]) hx hb dX3_stream_52 hl (by decide) rfl (fun ls hl => ?_)
  refine lv_iload_n hx hb dX3_stream_54 rfl (lv_at hl 4 rfl) ?_
  refine lv_tableIn (off := 117) (tgt := 172) hx hb dX3_stream_55 (by decide) (by decide) (by decide) (by decide) ?_
  refine lv_aload_n hx hb dX3_stream_172 rfl (lv_at hl 2 rfl) ?_
  refine mr_getr (r := p) (TT := TX3) (N := 7) C0 uX3_stream_X3 hM hX.1.1 hX.1.2 rfl 0 (by decide) rfl kX3_stream_f10 rfl dX3_stream_173 ?_
  refine lv_iload_n hx hb dX3_stream_176 rfl (lv_at hl 3 rfl) ?_
  refine mr_callV (As := [.int (nI s0)]) C0 (ctX2_blockersOfFirst_t (I := I) (J := J) (q := p) (s0 := s0) hX.2.1 hW (by omega) (by omega)) (cwV 1 C0.1.2.2.2.2 gX3_stream_X2_blockersOfFirst rfl rfl rfl (by decide +kernel) (by rw [hR]; exact ⟨Nat.le_of_ble_eq_true rfl, Nat.le_of_ble_eq_true rfl⟩)) hM hX.2.1.1.1 hX.2.1.1.2 rfl rfl hM hS rfl rfl rfl hl.1 (Nat.le_of_ble_eq_true rfl) dX3_stream_177 (by rw [hR]; exact ⟨Nat.zero_le _, Nat.zero_le _⟩) (fun H locs hM hS => ?_)
  skip
  exact mr_iret (v := fX2_blockersOfFirst_t I p c e s0) C0 hr hlk hQ hS rfl hM (Nat.le_refl _) (Nat.le_refl _) dX3_stream_180
set_option maxHeartbeats 4000000 in
set_option maxRecDepth 100000 in
theorem ctX3_frame_b {l : Launch} {D : va_G} {T : Nat → ClassId} {L : List Nat} {A : Nat → Prop} {Sh : hm_S} {I : hm_I} {J : hm_J} {x p f h m k j : Nat} {hs im : Nat → Nat} (hX : IsX L Sh x p f h m k j hs im) {s0 k0 w0 : Int32} (hb0 : fX3_isStream s0 = true → ¬ k0 < 0 → fX3_isWithin w0 (nI 0) (nI 3) = false) :
    Ct l yX3_frame wsX3_frame { frames := 1, cells := 0, slots := 0, locals := 22 } 0 0 D T A [.ref x, .int s0, .int k0, .int w0] (hm D T L A Sh I J) (some (.int (-1))) (hm D T L A Sh I J) := by
  refine Ct.ofW (cc := cX3_frame) (maxL := 5) (ret := (some .int)) (by decide) rfl (Nat.le_of_ble_eq_true rfl) ?_
  intro p_ e_ s_ m_ args_ below_ meth_ c_ ls R Qq hR hQ C0 hr hlk hname hM hl
  have hx := C0.1.1
  have hb := C0.1.2.1
  have hS : va_S A s_.heap s_.heap [] := va_S.rf
  have hl : lv_has ls 5 [(0, .ref x), (1, .int s0), (2, .int k0), (3, .int w0)] := hl
  refine lv_iload_n hx hb dX3_frame_0 rfl (lv_at hl 1 rfl) ?_
  refine mr_callS (As := [.int s0]) C0 (ctX3_isStream (I := I) (J := J) (s0 := s0) ) (va_cwS 1 C0.1.2.2.2.2 gX3_frame_X3_isStream rfl rfl rfl (by decide +kernel) (by rw [hR]; exact ⟨Nat.le_of_ble_eq_true rfl, Nat.le_of_ble_eq_true rfl⟩)) hM hS rfl rfl rfl hl.1 (Nat.le_of_ble_eq_true rfl) dX3_frame_1 (by rw [hR]; exact ⟨Nat.zero_le _, Nat.zero_le _⟩) (fun H locs hM hS => ?_)
  refine mr_eqB (tgt := 20) C0 dX3_frame_4 (by decide) (fun c1 => ?_) (fun c1 => ?_)
  · skip
    refine lv_iconst (v := (-1)) hx hb dX3_frame_20 (by decide) ?_
    skip
    exact mr_iret (v := (-1)) C0 hr hlk hQ hS rfl hM (Nat.le_refl _) (Nat.le_refl _) dX3_frame_21
  · skip
    refine lv_iload_n hx hb dX3_frame_7 rfl (lv_at hl 2 rfl) ?_
    refine lv_if_lt (tgt := 20) hx hb dX3_frame_8 (by decide) (fun c2 => ?_) (fun c2 => ?_)
    · skip
      refine lv_iconst (v := (-1)) hx hb dX3_frame_20 (by decide) ?_
      skip
      exact mr_iret (v := (-1)) C0 hr hlk hQ hS rfl hM (Nat.le_refl _) (Nat.le_refl _) dX3_frame_21
    · skip
      refine lv_iload_n hx hb dX3_frame_11 rfl (lv_at hl 3 rfl) ?_
      refine lv_iconst (v := nI 0) hx hb dX3_frame_12 (by decide) ?_
      refine lv_iconst (v := nI 3) hx hb dX3_frame_13 (by decide) ?_
      refine mr_callS (As := [.int w0, .int (nI 0), .int (nI 3)]) C0 (ctX3_isWithin (I := I) (J := J) (v := w0) (lo := (nI 0)) (up := (nI 3)) ) (va_cwS 3 C0.1.2.2.2.2 gX3_frame_X3_isWithin rfl rfl rfl (by decide +kernel) (by rw [hR]; exact ⟨Nat.le_of_ble_eq_true rfl, Nat.le_of_ble_eq_true rfl⟩)) hM hS rfl rfl rfl hl.1 (Nat.le_of_ble_eq_true rfl) dX3_frame_14 (by rw [hR]; exact ⟨Nat.zero_le _, Nat.zero_le _⟩) (fun H locs hM hS => ?_)
      refine mr_neB (tgt := 22) C0 dX3_frame_17 (by decide) (fun c3 => absurd (hb0 c1 c2) (by rw [c3]; decide)) (fun c3 => ?_)
      refine lv_iconst (v := (-1)) hx hb dX3_frame_20 (by decide) ?_
      skip
      exact mr_iret (v := (-1)) C0 hr hlk hQ hS rfl hM (Nat.le_refl _) (Nat.le_refl _) dX3_frame_21
set_option maxHeartbeats 4000000 in
set_option maxRecDepth 100000 in
theorem ctX3_frame_n {l : Launch} {D : va_G} {T : Nat → ClassId} {L : List Nat} {A : Nat → Prop} {Sh : hm_S} {I : hm_I} {J : hm_J} {x p f h m k j : Nat} {hs im : Nat → Nat} (hX : IsX L Sh x p f h m k j hs im) (hA : ApX x p f h m k j hs im) {c : Nat → Nat} {e : Nat → Nat → Nat} {ec lc : Nat} (hW : WfS I p c e ec lc) {s0 : Nat} (hs0 : s0 < 8) {k0 : Nat} {w0 : Int32} (hk : k0 < 2 ^ 31) (hck : c s0 ≤ k0) (hw0 : fX3_isWithin w0 (nI 0) (nI 3) = true) :
    Ct l yX3_frame wsX3_frame { frames := 1, cells := 0, slots := 0, locals := 22 } 0 0 D T A [.ref x, .int (nI s0), .int (nI k0), .int w0] (hm D T L A Sh I J) (some (.int (-9))) (hm D T L A Sh I J) := by
  refine Ct.ofW (cc := cX3_frame) (maxL := 5) (ret := (some .int)) (by decide) rfl (Nat.le_of_ble_eq_true rfl) ?_
  intro p_ e_ s_ m_ args_ below_ meth_ c_ ls R Qq hR hQ C0 hr hlk hname hM hl
  have hx := C0.1.1
  have hb := C0.1.2.1
  have hS : va_S A s_.heap s_.heap [] := va_S.rf
  have hl : lv_has ls 5 [(0, .ref x), (1, .int (nI s0)), (2, .int (nI k0)), (3, .int w0)] := hl
  have hec10 := hW.2.2.2.2.1
  have hec1 := hW.2.2.2.1
  refine lv_iload_n hx hb dX3_frame_0 rfl (lv_at hl 1 rfl) ?_
  refine mr_callS (As := [.int (nI s0)]) C0 (ctX3_isStream_t (I := I) (J := J) (s0 := s0) (by omega)) (va_cwS 1 C0.1.2.2.2.2 gX3_frame_X3_isStream rfl rfl rfl (by decide +kernel) (by rw [hR]; exact ⟨Nat.le_of_ble_eq_true rfl, Nat.le_of_ble_eq_true rfl⟩)) hM hS rfl rfl rfl hl.1 (Nat.le_of_ble_eq_true rfl) dX3_frame_1 (by rw [hR]; exact ⟨Nat.zero_le _, Nat.zero_le _⟩) (fun H locs hM hS => ?_)
  refine mr_eqB (tgt := 20) C0 dX3_frame_4 (by decide) (fun c1 => absurd c1 (by decide)) (fun _ => ?_)
  refine lv_iload_n hx hb dX3_frame_7 rfl (lv_at hl 2 rfl) ?_
  refine lv_if_lt (tgt := 20) hx hb dX3_frame_8 (by decide) (fun c2 => absurd c2 (nI_pos (by omega))) (fun c2 => ?_)
  refine lv_iload_n hx hb dX3_frame_11 rfl (lv_at hl 3 rfl) ?_
  refine lv_iconst (v := nI 0) hx hb dX3_frame_12 (by decide) ?_
  refine lv_iconst (v := nI 3) hx hb dX3_frame_13 (by decide) ?_
  refine mr_callS (As := [.int w0, .int (nI 0), .int (nI 3)]) C0 (ctX3_isWithin (I := I) (J := J) (v := w0) (lo := (nI 0)) (up := (nI 3)) ) (va_cwS 3 C0.1.2.2.2.2 gX3_frame_X3_isWithin rfl rfl rfl (by decide +kernel) (by rw [hR]; exact ⟨Nat.le_of_ble_eq_true rfl, Nat.le_of_ble_eq_true rfl⟩)) hM hS rfl rfl rfl hl.1 (Nat.le_of_ble_eq_true rfl) dX3_frame_14 (by rw [hR]; exact ⟨Nat.zero_le _, Nat.zero_le _⟩) (fun H locs hM hS => ?_)
  refine mr_neB (tgt := 22) C0 dX3_frame_17 (by decide) (fun c3 => ?_) (fun c3 => absurd c3 (by rw [hw0]; decide))
  refine lv_aload_n hx hb dX3_frame_22 rfl (lv_at hl 0 rfl) ?_
  refine mr_getr (r := p) (TT := TX3) (N := 7) C0 uX3_frame_X3 hM hX.1.1 hX.1.2 rfl 0 (by decide) rfl kX3_frame_f10 rfl dX3_frame_23 ?_
  refine mr_getr (r := p + 3) (TT := TX2) (N := 10) C0 uX3_frame_X2 hM hX.2.1.1.1 hX.2.1.1.2 rfl 3 (by decide) rfl kX3_frame_f65 rfl dX3_frame_26 ?_
  refine lv_iload_n hx hb dX3_frame_29 rfl (lv_at hl 1 rfl) ?_
  refine mr_aald (t := 0) (C := RX0) (r := p + 4 + 5 * s0) C0 hM hX.2.1.2.2.2.1.1 hX.2.1.2.2.2.1.2 rfl (by decide) (by omega) rfl dX3_frame_30 ?_
  refine lv_astore (lv' := [(4, .ref (p + 4 + 5 * s0)), (0, .ref x), (1, .int (nI s0)), (2, .int (nI k0)), (3, .int w0)]) hx hb dX3_frame_31 hl (by decide) rfl (fun ls hl => ?_)
  refine lv_iload_n hx hb dX3_frame_33 rfl (lv_at hl 3 rfl) ?_
  refine lv_aload hx hb dX3_frame_34 (lv_at hl 0 rfl) ?_
  have hw4 := hW.1 s0 (by omega)
  have hw4b := hw4.2
  refine mr_geti (v := nI (c s0)) (TT := TX0) (N := 5) C0 uX3_frame_X0 hM (hX.2.1.2.2.2.2.1 _ (by omega)).1.1 (hX.2.1.2.2.2.2.1 _ (by omega)).1.2 rfl 4 (by decide) rfl hw4.1 kX3_frame_f69 rfl dX3_frame_36 ?_
  refine mr_ltN (x := k0) (y := (c s0)) (tgt := 45) C0 dX3_frame_39 (by decide) (by omega) (by omega) (fun c5 => absurd c5 (by omega)) (fun c5 => ?_)
  refine lv_bipush (v := (-9)) hx hb dX3_frame_42 (by decide) ?_
  skip
  exact mr_iret (v := (-9)) C0 hr hlk hQ hS rfl hM (Nat.le_refl _) (Nat.le_refl _) dX3_frame_44
set_option maxHeartbeats 4000000 in
set_option maxRecDepth 100000 in
theorem ctX3_frame_0 {l : Launch} {D : va_G} {T : Nat → ClassId} {L : List Nat} {A : Nat → Prop} {Sh : hm_S} {I : hm_I} {J : hm_J} {x p f h m k j : Nat} {hs im : Nat → Nat} (hX : IsX L Sh x p f h m k j hs im) (hA : ApX x p f h m k j hs im) {c : Nat → Nat} {e : Nat → Nat → Nat} {ec lc : Nat} (hW : WfS I p c e ec lc) {s0 : Nat} (hs0 : s0 < 8) {k0 : Nat} (hck : k0 < c s0) :
    Ct l yX3_frame wsX3_frame { frames := 2, cells := 0, slots := 0, locals := 42 } 0 0 D T A [.ref x, .int (nI s0), .int (nI k0), .int (nI 0)] (hm D T L A Sh I J) (some (.int (I ((p + 4 + 5 * s0) + 1) k0))) (hm D T L A Sh I J) := by
  refine Ct.ofW (cc := cX3_frame) (maxL := 5) (ret := (some .int)) (by decide) rfl (Nat.le_of_ble_eq_true rfl) ?_
  intro p_ e_ s_ m_ args_ below_ meth_ c_ ls R Qq hR hQ C0 hr hlk hname hM hl
  have hx := C0.1.1
  have hb := C0.1.2.1
  have hS : va_S A s_.heap s_.heap [] := va_S.rf
  have hl : lv_has ls 5 [(0, .ref x), (1, .int (nI s0)), (2, .int (nI k0)), (3, .int (nI 0))] := hl
  have hec10 := hW.2.2.2.2.1
  have hec1 := hW.2.2.2.1
  have hk6 := (hW.1 s0 hs0).2
  refine lv_iload_n hx hb dX3_frame_0 rfl (lv_at hl 1 rfl) ?_
  refine mr_callS (As := [.int (nI s0)]) C0 (ctX3_isStream_t (I := I) (J := J) (s0 := s0) (by omega)) (va_cwS 1 C0.1.2.2.2.2 gX3_frame_X3_isStream rfl rfl rfl (by decide +kernel) (by rw [hR]; exact ⟨Nat.le_of_ble_eq_true rfl, Nat.le_of_ble_eq_true rfl⟩)) hM hS rfl rfl rfl hl.1 (Nat.le_of_ble_eq_true rfl) dX3_frame_1 (by rw [hR]; exact ⟨Nat.zero_le _, Nat.zero_le _⟩) (fun H locs hM hS => ?_)
  refine mr_eqB (tgt := 20) C0 dX3_frame_4 (by decide) (fun c1 => absurd c1 (by decide)) (fun _ => ?_)
  refine lv_iload_n hx hb dX3_frame_7 rfl (lv_at hl 2 rfl) ?_
  refine lv_if_lt (tgt := 20) hx hb dX3_frame_8 (by decide) (fun c2 => absurd c2 (nI_pos (by omega))) (fun c2 => ?_)
  refine lv_iload_n hx hb dX3_frame_11 rfl (lv_at hl 3 rfl) ?_
  refine lv_iconst (v := nI 0) hx hb dX3_frame_12 (by decide) ?_
  refine lv_iconst (v := nI 3) hx hb dX3_frame_13 (by decide) ?_
  refine mr_callS (As := [.int (nI 0), .int (nI 0), .int (nI 3)]) C0 (ctX3_isWithin (I := I) (J := J) (v := (nI 0)) (lo := (nI 0)) (up := (nI 3)) ) (va_cwS 3 C0.1.2.2.2.2 gX3_frame_X3_isWithin rfl rfl rfl (by decide +kernel) (by rw [hR]; exact ⟨Nat.le_of_ble_eq_true rfl, Nat.le_of_ble_eq_true rfl⟩)) hM hS rfl rfl rfl hl.1 (Nat.le_of_ble_eq_true rfl) dX3_frame_14 (by rw [hR]; exact ⟨Nat.zero_le _, Nat.zero_le _⟩) (fun H locs hM hS => ?_)
  refine mr_neB (tgt := 22) C0 dX3_frame_17 (by decide) (fun c3 => ?_) (fun c3 => absurd c3 (by decide))
  refine lv_aload_n hx hb dX3_frame_22 rfl (lv_at hl 0 rfl) ?_
  refine mr_getr (r := p) (TT := TX3) (N := 7) C0 uX3_frame_X3 hM hX.1.1 hX.1.2 rfl 0 (by decide) rfl kX3_frame_f10 rfl dX3_frame_23 ?_
  refine mr_getr (r := p + 3) (TT := TX2) (N := 10) C0 uX3_frame_X2 hM hX.2.1.1.1 hX.2.1.1.2 rfl 3 (by decide) rfl kX3_frame_f65 rfl dX3_frame_26 ?_
  refine lv_iload_n hx hb dX3_frame_29 rfl (lv_at hl 1 rfl) ?_
  refine mr_aald (t := 0) (C := RX0) (r := p + 4 + 5 * s0) C0 hM hX.2.1.2.2.2.1.1 hX.2.1.2.2.2.1.2 rfl (by decide) (by omega) rfl dX3_frame_30 ?_
  refine lv_astore (lv' := [(4, .ref (p + 4 + 5 * s0)), (0, .ref x), (1, .int (nI s0)), (2, .int (nI k0)), (3, .int (nI 0))]) hx hb dX3_frame_31 hl (by decide) rfl (fun ls hl => ?_)
  refine lv_iload_n hx hb dX3_frame_33 rfl (lv_at hl 3 rfl) ?_
  refine lv_aload hx hb dX3_frame_34 (lv_at hl 0 rfl) ?_
  have hw4 := hW.1 s0 (by omega)
  have hw4b := hw4.2
  refine mr_geti (v := nI (c s0)) (TT := TX0) (N := 5) C0 uX3_frame_X0 hM (hX.2.1.2.2.2.2.1 _ (by omega)).1.1 (hX.2.1.2.2.2.2.1 _ (by omega)).1.2 rfl 4 (by decide) rfl hw4.1 kX3_frame_f69 rfl dX3_frame_36 ?_
  refine mr_ltN (x := k0) (y := (c s0)) (tgt := 45) C0 dX3_frame_39 (by decide) (by omega) (by omega) (fun c5 => ?_) (fun c5 => absurd c5 (by omega))
  refine lv_iload_n hx hb dX3_frame_45 rfl (lv_at hl 4 rfl) ?_
  refine lv_tableIn (off := 26) (tgt := 72) hx hb dX3_frame_46 (by decide) (by decide) (by decide) (by decide) ?_
  refine lv_aload hx hb dX3_frame_72 (lv_at hl 0 rfl) ?_
  refine lv_iload_n hx hb dX3_frame_74 rfl (lv_at hl 3 rfl) ?_
  refine mr_callV (As := [.int (nI k0)]) C0 (ctX0_numberAt_t (I := I) (J := J) (a := (p + 4 + 5 * s0)) (k := k0) (hX.2.1.2.2.2.2.1 _ (by omega)) hw4.1 (by omega) (by omega) (by omega)) (cwV 1 C0.1.2.2.2.2 gX3_frame_X0_numberAt rfl rfl rfl (by decide +kernel) (by rw [hR]; exact ⟨Nat.le_of_ble_eq_true rfl, Nat.le_of_ble_eq_true rfl⟩)) hM (hX.2.1.2.2.2.2.1 _ (by omega)).1.1 (hX.2.1.2.2.2.2.1 _ (by omega)).1.2 rfl rfl hM hS rfl rfl rfl hl.1 (Nat.le_of_ble_eq_true rfl) dX3_frame_75 (by rw [hR]; exact ⟨Nat.zero_le _, Nat.zero_le _⟩) (fun H locs hM hS => ?_)
  skip
  exact mr_iret (v := I ((p + 4 + 5 * s0) + 1) k0) C0 hr hlk hQ hS rfl hM (Nat.le_refl _) (Nat.le_refl _) dX3_frame_78
set_option maxHeartbeats 4000000 in
set_option maxRecDepth 100000 in
theorem ctX3_frame_1 {l : Launch} {D : va_G} {T : Nat → ClassId} {L : List Nat} {A : Nat → Prop} {Sh : hm_S} {I : hm_I} {J : hm_J} {x p f h m k j : Nat} {hs im : Nat → Nat} (hX : IsX L Sh x p f h m k j hs im) (hA : ApX x p f h m k j hs im) {c : Nat → Nat} {e : Nat → Nat → Nat} {ec lc : Nat} (hW : WfS I p c e ec lc) {s0 : Nat} (hs0 : s0 < 8) {k0 : Nat} (hck : k0 < c s0) :
    Ct l yX3_frame wsX3_frame { frames := 2, cells := 0, slots := 0, locals := 42 } 0 0 D T A [.ref x, .int (nI s0), .int (nI k0), .int (nI 1)] (hm D T L A Sh I J) (some (.int (I ((p + 4 + 5 * s0) + 3) k0))) (hm D T L A Sh I J) := by
  refine Ct.ofW (cc := cX3_frame) (maxL := 5) (ret := (some .int)) (by decide) rfl (Nat.le_of_ble_eq_true rfl) ?_
  intro p_ e_ s_ m_ args_ below_ meth_ c_ ls R Qq hR hQ C0 hr hlk hname hM hl
  have hx := C0.1.1
  have hb := C0.1.2.1
  have hS : va_S A s_.heap s_.heap [] := va_S.rf
  have hl : lv_has ls 5 [(0, .ref x), (1, .int (nI s0)), (2, .int (nI k0)), (3, .int (nI 1))] := hl
  have hec10 := hW.2.2.2.2.1
  have hec1 := hW.2.2.2.1
  have hk6 := (hW.1 s0 hs0).2
  refine lv_iload_n hx hb dX3_frame_0 rfl (lv_at hl 1 rfl) ?_
  refine mr_callS (As := [.int (nI s0)]) C0 (ctX3_isStream_t (I := I) (J := J) (s0 := s0) (by omega)) (va_cwS 1 C0.1.2.2.2.2 gX3_frame_X3_isStream rfl rfl rfl (by decide +kernel) (by rw [hR]; exact ⟨Nat.le_of_ble_eq_true rfl, Nat.le_of_ble_eq_true rfl⟩)) hM hS rfl rfl rfl hl.1 (Nat.le_of_ble_eq_true rfl) dX3_frame_1 (by rw [hR]; exact ⟨Nat.zero_le _, Nat.zero_le _⟩) (fun H locs hM hS => ?_)
  refine mr_eqB (tgt := 20) C0 dX3_frame_4 (by decide) (fun c1 => absurd c1 (by decide)) (fun _ => ?_)
  refine lv_iload_n hx hb dX3_frame_7 rfl (lv_at hl 2 rfl) ?_
  refine lv_if_lt (tgt := 20) hx hb dX3_frame_8 (by decide) (fun c2 => absurd c2 (nI_pos (by omega))) (fun c2 => ?_)
  refine lv_iload_n hx hb dX3_frame_11 rfl (lv_at hl 3 rfl) ?_
  refine lv_iconst (v := nI 0) hx hb dX3_frame_12 (by decide) ?_
  refine lv_iconst (v := nI 3) hx hb dX3_frame_13 (by decide) ?_
  refine mr_callS (As := [.int (nI 1), .int (nI 0), .int (nI 3)]) C0 (ctX3_isWithin (I := I) (J := J) (v := (nI 1)) (lo := (nI 0)) (up := (nI 3)) ) (va_cwS 3 C0.1.2.2.2.2 gX3_frame_X3_isWithin rfl rfl rfl (by decide +kernel) (by rw [hR]; exact ⟨Nat.le_of_ble_eq_true rfl, Nat.le_of_ble_eq_true rfl⟩)) hM hS rfl rfl rfl hl.1 (Nat.le_of_ble_eq_true rfl) dX3_frame_14 (by rw [hR]; exact ⟨Nat.zero_le _, Nat.zero_le _⟩) (fun H locs hM hS => ?_)
  refine mr_neB (tgt := 22) C0 dX3_frame_17 (by decide) (fun c3 => ?_) (fun c3 => absurd c3 (by decide))
  refine lv_aload_n hx hb dX3_frame_22 rfl (lv_at hl 0 rfl) ?_
  refine mr_getr (r := p) (TT := TX3) (N := 7) C0 uX3_frame_X3 hM hX.1.1 hX.1.2 rfl 0 (by decide) rfl kX3_frame_f10 rfl dX3_frame_23 ?_
  refine mr_getr (r := p + 3) (TT := TX2) (N := 10) C0 uX3_frame_X2 hM hX.2.1.1.1 hX.2.1.1.2 rfl 3 (by decide) rfl kX3_frame_f65 rfl dX3_frame_26 ?_
  refine lv_iload_n hx hb dX3_frame_29 rfl (lv_at hl 1 rfl) ?_
  refine mr_aald (t := 0) (C := RX0) (r := p + 4 + 5 * s0) C0 hM hX.2.1.2.2.2.1.1 hX.2.1.2.2.2.1.2 rfl (by decide) (by omega) rfl dX3_frame_30 ?_
  refine lv_astore (lv' := [(4, .ref (p + 4 + 5 * s0)), (0, .ref x), (1, .int (nI s0)), (2, .int (nI k0)), (3, .int (nI 1))]) hx hb dX3_frame_31 hl (by decide) rfl (fun ls hl => ?_)
  refine lv_iload_n hx hb dX3_frame_33 rfl (lv_at hl 3 rfl) ?_
  refine lv_aload hx hb dX3_frame_34 (lv_at hl 0 rfl) ?_
  have hw4 := hW.1 s0 (by omega)
  have hw4b := hw4.2
  refine mr_geti (v := nI (c s0)) (TT := TX0) (N := 5) C0 uX3_frame_X0 hM (hX.2.1.2.2.2.2.1 _ (by omega)).1.1 (hX.2.1.2.2.2.2.1 _ (by omega)).1.2 rfl 4 (by decide) rfl hw4.1 kX3_frame_f69 rfl dX3_frame_36 ?_
  refine mr_ltN (x := k0) (y := (c s0)) (tgt := 45) C0 dX3_frame_39 (by decide) (by omega) (by omega) (fun c5 => ?_) (fun c5 => absurd c5 (by omega))
  refine lv_iload_n hx hb dX3_frame_45 rfl (lv_at hl 4 rfl) ?_
  refine lv_tableIn (off := 33) (tgt := 79) hx hb dX3_frame_46 (by decide) (by decide) (by decide) (by decide) ?_
  refine lv_aload hx hb dX3_frame_79 (lv_at hl 0 rfl) ?_
  refine lv_iload_n hx hb dX3_frame_81 rfl (lv_at hl 3 rfl) ?_
  refine mr_callV (As := [.int (nI k0)]) C0 (ctX0_sizeAt_t (I := I) (J := J) (a := (p + 4 + 5 * s0)) (k := k0) (hX.2.1.2.2.2.2.1 _ (by omega)) hw4.1 (by omega) (by omega) (by omega)) (cwV 1 C0.1.2.2.2.2 gX3_frame_X0_sizeAt rfl rfl rfl (by decide +kernel) (by rw [hR]; exact ⟨Nat.le_of_ble_eq_true rfl, Nat.le_of_ble_eq_true rfl⟩)) hM (hX.2.1.2.2.2.2.1 _ (by omega)).1.1 (hX.2.1.2.2.2.2.1 _ (by omega)).1.2 rfl rfl hM hS rfl rfl rfl hl.1 (Nat.le_of_ble_eq_true rfl) dX3_frame_82 (by rw [hR]; exact ⟨Nat.zero_le _, Nat.zero_le _⟩) (fun H locs hM hS => ?_)
  skip
  exact mr_iret (v := I ((p + 4 + 5 * s0) + 3) k0) C0 hr hlk hQ hS rfl hM (Nat.le_refl _) (Nat.le_refl _) dX3_frame_85
set_option maxHeartbeats 4000000 in
set_option maxRecDepth 100000 in
theorem ctX3_frame_2 {l : Launch} {D : va_G} {T : Nat → ClassId} {L : List Nat} {A : Nat → Prop} {Sh : hm_S} {I : hm_I} {J : hm_J} {x p f h m k j : Nat} {hs im : Nat → Nat} (hX : IsX L Sh x p f h m k j hs im) (hA : ApX x p f h m k j hs im) {c : Nat → Nat} {e : Nat → Nat → Nat} {ec lc : Nat} (hW : WfS I p c e ec lc) {s0 : Nat} (hs0 : s0 < 8) {k0 : Nat} (hck : k0 < c s0) :
    Ct l yX3_frame wsX3_frame { frames := 2, cells := 0, slots := 0, locals := 42 } 0 0 D T A [.ref x, .int (nI s0), .int (nI k0), .int (nI 2)] (hm D T L A Sh I J) (some (.int (I ((p + 4 + 5 * s0) + 4) k0))) (hm D T L A Sh I J) := by
  refine Ct.ofW (cc := cX3_frame) (maxL := 5) (ret := (some .int)) (by decide) rfl (Nat.le_of_ble_eq_true rfl) ?_
  intro p_ e_ s_ m_ args_ below_ meth_ c_ ls R Qq hR hQ C0 hr hlk hname hM hl
  have hx := C0.1.1
  have hb := C0.1.2.1
  have hS : va_S A s_.heap s_.heap [] := va_S.rf
  have hl : lv_has ls 5 [(0, .ref x), (1, .int (nI s0)), (2, .int (nI k0)), (3, .int (nI 2))] := hl
  have hec10 := hW.2.2.2.2.1
  have hec1 := hW.2.2.2.1
  have hk6 := (hW.1 s0 hs0).2
  refine lv_iload_n hx hb dX3_frame_0 rfl (lv_at hl 1 rfl) ?_
  refine mr_callS (As := [.int (nI s0)]) C0 (ctX3_isStream_t (I := I) (J := J) (s0 := s0) (by omega)) (va_cwS 1 C0.1.2.2.2.2 gX3_frame_X3_isStream rfl rfl rfl (by decide +kernel) (by rw [hR]; exact ⟨Nat.le_of_ble_eq_true rfl, Nat.le_of_ble_eq_true rfl⟩)) hM hS rfl rfl rfl hl.1 (Nat.le_of_ble_eq_true rfl) dX3_frame_1 (by rw [hR]; exact ⟨Nat.zero_le _, Nat.zero_le _⟩) (fun H locs hM hS => ?_)
  refine mr_eqB (tgt := 20) C0 dX3_frame_4 (by decide) (fun c1 => absurd c1 (by decide)) (fun _ => ?_)
  refine lv_iload_n hx hb dX3_frame_7 rfl (lv_at hl 2 rfl) ?_
  refine lv_if_lt (tgt := 20) hx hb dX3_frame_8 (by decide) (fun c2 => absurd c2 (nI_pos (by omega))) (fun c2 => ?_)
  refine lv_iload_n hx hb dX3_frame_11 rfl (lv_at hl 3 rfl) ?_
  refine lv_iconst (v := nI 0) hx hb dX3_frame_12 (by decide) ?_
  refine lv_iconst (v := nI 3) hx hb dX3_frame_13 (by decide) ?_
  refine mr_callS (As := [.int (nI 2), .int (nI 0), .int (nI 3)]) C0 (ctX3_isWithin (I := I) (J := J) (v := (nI 2)) (lo := (nI 0)) (up := (nI 3)) ) (va_cwS 3 C0.1.2.2.2.2 gX3_frame_X3_isWithin rfl rfl rfl (by decide +kernel) (by rw [hR]; exact ⟨Nat.le_of_ble_eq_true rfl, Nat.le_of_ble_eq_true rfl⟩)) hM hS rfl rfl rfl hl.1 (Nat.le_of_ble_eq_true rfl) dX3_frame_14 (by rw [hR]; exact ⟨Nat.zero_le _, Nat.zero_le _⟩) (fun H locs hM hS => ?_)
  refine mr_neB (tgt := 22) C0 dX3_frame_17 (by decide) (fun c3 => ?_) (fun c3 => absurd c3 (by decide))
  refine lv_aload_n hx hb dX3_frame_22 rfl (lv_at hl 0 rfl) ?_
  refine mr_getr (r := p) (TT := TX3) (N := 7) C0 uX3_frame_X3 hM hX.1.1 hX.1.2 rfl 0 (by decide) rfl kX3_frame_f10 rfl dX3_frame_23 ?_
  refine mr_getr (r := p + 3) (TT := TX2) (N := 10) C0 uX3_frame_X2 hM hX.2.1.1.1 hX.2.1.1.2 rfl 3 (by decide) rfl kX3_frame_f65 rfl dX3_frame_26 ?_
  refine lv_iload_n hx hb dX3_frame_29 rfl (lv_at hl 1 rfl) ?_
  refine mr_aald (t := 0) (C := RX0) (r := p + 4 + 5 * s0) C0 hM hX.2.1.2.2.2.1.1 hX.2.1.2.2.2.1.2 rfl (by decide) (by omega) rfl dX3_frame_30 ?_
  refine lv_astore (lv' := [(4, .ref (p + 4 + 5 * s0)), (0, .ref x), (1, .int (nI s0)), (2, .int (nI k0)), (3, .int (nI 2))]) hx hb dX3_frame_31 hl (by decide) rfl (fun ls hl => ?_)
  refine lv_iload_n hx hb dX3_frame_33 rfl (lv_at hl 3 rfl) ?_
  refine lv_aload hx hb dX3_frame_34 (lv_at hl 0 rfl) ?_
  have hw4 := hW.1 s0 (by omega)
  have hw4b := hw4.2
  refine mr_geti (v := nI (c s0)) (TT := TX0) (N := 5) C0 uX3_frame_X0 hM (hX.2.1.2.2.2.2.1 _ (by omega)).1.1 (hX.2.1.2.2.2.2.1 _ (by omega)).1.2 rfl 4 (by decide) rfl hw4.1 kX3_frame_f69 rfl dX3_frame_36 ?_
  refine mr_ltN (x := k0) (y := (c s0)) (tgt := 45) C0 dX3_frame_39 (by decide) (by omega) (by omega) (fun c5 => ?_) (fun c5 => absurd c5 (by omega))
  refine lv_iload_n hx hb dX3_frame_45 rfl (lv_at hl 4 rfl) ?_
  refine lv_tableIn (off := 40) (tgt := 86) hx hb dX3_frame_46 (by decide) (by decide) (by decide) (by decide) ?_
  refine lv_aload hx hb dX3_frame_86 (lv_at hl 0 rfl) ?_
  refine lv_iload_n hx hb dX3_frame_88 rfl (lv_at hl 3 rfl) ?_
  refine mr_callV (As := [.int (nI k0)]) C0 (ctX0_epochAt_t (I := I) (J := J) (a := (p + 4 + 5 * s0)) (k := k0) (hX.2.1.2.2.2.2.1 _ (by omega)) hw4.1 (by omega) (by omega) (by omega)) (cwV 1 C0.1.2.2.2.2 gX3_frame_X0_epochAt rfl rfl rfl (by decide +kernel) (by rw [hR]; exact ⟨Nat.le_of_ble_eq_true rfl, Nat.le_of_ble_eq_true rfl⟩)) hM (hX.2.1.2.2.2.2.1 _ (by omega)).1.1 (hX.2.1.2.2.2.2.1 _ (by omega)).1.2 rfl rfl hM hS rfl rfl rfl hl.1 (Nat.le_of_ble_eq_true rfl) dX3_frame_89 (by rw [hR]; exact ⟨Nat.zero_le _, Nat.zero_le _⟩) (fun H locs hM hS => ?_)
  skip
  exact mr_iret (v := I ((p + 4 + 5 * s0) + 4) k0) C0 hr hlk hQ hS rfl hM (Nat.le_refl _) (Nat.le_refl _) dX3_frame_92
set_option maxHeartbeats 4000000 in
set_option maxRecDepth 100000 in
theorem ctX3_log_b {l : Launch} {D : va_G} {T : Nat → ClassId} {L : List Nat} {A : Nat → Prop} {Sh : hm_S} {I : hm_I} {J : hm_J} {x p f h m k j : Nat} {hs im : Nat → Nat} (hX : IsX L Sh x p f h m k j hs im) (hA : ApX x p f h m k j hs im) {c : Nat → Nat} {e : Nat → Nat → Nat} {ec lc : Nat} (hW : WfS I p c e ec lc) {k0 w0 : Int32} (hb0 : ¬ k0 < 0 → ¬ nI lc ≤ k0 → fX3_isWithin w0 (nI 0) (nI 3) = false) :
    Ct l yX3_log wsX3_log { frames := 1, cells := 0, slots := 0, locals := 22 } 0 0 D T A [.ref x, .int k0, .int w0] (hm D T L A Sh I J) (some (.int (-1))) (hm D T L A Sh I J) := by
  refine Ct.ofW (cc := cX3_log) (maxL := 4) (ret := (some .int)) (by decide) rfl (Nat.le_of_ble_eq_true rfl) ?_
  intro p_ e_ s_ m_ args_ below_ meth_ c_ ls R Qq hR hQ C0 hr hlk hname hM hl
  have hx := C0.1.1
  have hb := C0.1.2.1
  have hS : va_S A s_.heap s_.heap [] := va_S.rf
  have hl : lv_has ls 4 [(0, .ref x), (1, .int k0), (2, .int w0)] := hl
  have hec10 := hW.2.2.2.2.1
  have hec1 := hW.2.2.2.1
  refine lv_aload_n hx hb dX3_log_0 rfl (lv_at hl 0 rfl) ?_
  refine mr_getr (r := p) (TT := TX3) (N := 7) C0 uX3_log_X3 hM hX.1.1 hX.1.2 rfl 0 (by decide) rfl kX3_log_f10 rfl dX3_log_1 ?_
  refine mr_getr (r := p + 78) (TT := TX2) (N := 10) C0 uX3_log_X2 hM hX.2.1.1.1 hX.2.1.1.2 rfl 9 (by decide) rfl kX3_log_f171 rfl dX3_log_4 ?_
  refine lv_astore_n (lv' := [(3, .ref (p + 78)), (0, .ref x), (1, .int k0), (2, .int w0)]) hx hb dX3_log_7 rfl hl (by decide) rfl (fun ls hl => ?_)
  refine lv_iload_n hx hb dX3_log_8 rfl (lv_at hl 2 rfl) ?_
  refine lv_if_lt (tgt := 29) hx hb dX3_log_9 (by decide) (fun c1 => ?_) (fun c1 => ?_)
  · skip
    refine lv_iconst (v := (-1)) hx hb dX3_log_29 (by decide) ?_
    skip
    exact mr_iret (v := (-1)) C0 hr hlk hQ hS rfl hM (Nat.le_refl _) (Nat.le_refl _) dX3_log_30
  · skip
    refine lv_iload_n hx hb dX3_log_12 rfl (lv_at hl 2 rfl) ?_
    refine lv_aload_n hx hb dX3_log_13 rfl (lv_at hl 0 rfl) ?_
    have hw2 := hW.2.2.2.2.2.2
    refine mr_geti (v := nI lc) (TT := TX0) (N := 5) C0 uX3_log_X0 hM hX.2.1.2.2.2.2.2.2.2.2.1.1 hX.2.1.2.2.2.2.2.2.2.2.1.2 rfl 4 (by decide) rfl hW.2.2.2.2.2.1 kX3_log_f69 rfl dX3_log_14 ?_
    refine lv_icmp_ge (tgt := 29) hx hb dX3_log_17 (by decide) (fun c3 => ?_) (fun c3 => ?_)
    · skip
      refine lv_iconst (v := (-1)) hx hb dX3_log_29 (by decide) ?_
      skip
      exact mr_iret (v := (-1)) C0 hr hlk hQ hS rfl hM (Nat.le_refl _) (Nat.le_refl _) dX3_log_30
    · skip
      refine lv_iload_n hx hb dX3_log_20 rfl (lv_at hl 3 rfl) ?_
      refine lv_iconst (v := nI 0) hx hb dX3_log_21 (by decide) ?_
      refine lv_iconst (v := nI 3) hx hb dX3_log_22 (by decide) ?_
      refine mr_callS (As := [.int w0, .int (nI 0), .int (nI 3)]) C0 (ctX3_isWithin (I := I) (J := J) (v := w0) (lo := (nI 0)) (up := (nI 3)) ) (va_cwS 3 C0.1.2.2.2.2 gX3_log_X3_isWithin rfl rfl rfl (by decide +kernel) (by rw [hR]; exact ⟨Nat.le_of_ble_eq_true rfl, Nat.le_of_ble_eq_true rfl⟩)) hM hS rfl rfl rfl hl.1 (Nat.le_of_ble_eq_true rfl) dX3_log_23 (by rw [hR]; exact ⟨Nat.zero_le _, Nat.zero_le _⟩) (fun H locs hM hS => ?_)
      refine mr_neB (tgt := 31) C0 dX3_log_26 (by decide) (fun c4 => absurd (hb0 c1 c3) (by rw [c4]; decide)) (fun c4 => ?_)
      refine lv_iconst (v := (-1)) hx hb dX3_log_29 (by decide) ?_
      skip
      exact mr_iret (v := (-1)) C0 hr hlk hQ hS rfl hM (Nat.le_refl _) (Nat.le_refl _) dX3_log_30
set_option maxHeartbeats 4000000 in
set_option maxRecDepth 100000 in
theorem ctX3_log_0 {l : Launch} {D : va_G} {T : Nat → ClassId} {L : List Nat} {A : Nat → Prop} {Sh : hm_S} {I : hm_I} {J : hm_J} {x p f h m k j : Nat} {hs im : Nat → Nat} (hX : IsX L Sh x p f h m k j hs im) (hA : ApX x p f h m k j hs im) {c : Nat → Nat} {e : Nat → Nat → Nat} {ec lc : Nat} (hW : WfS I p c e ec lc) {k0 : Nat} (hck : k0 < lc) :
    Ct l yX3_log wsX3_log { frames := 2, cells := 0, slots := 0, locals := 42 } 0 0 D T A [.ref x, .int (nI k0), .int (nI 0)] (hm D T L A Sh I J) (some (.int (I ((p + 78) + 1) k0))) (hm D T L A Sh I J) := by
  refine Ct.ofW (cc := cX3_log) (maxL := 4) (ret := (some .int)) (by decide) rfl (Nat.le_of_ble_eq_true rfl) ?_
  intro p_ e_ s_ m_ args_ below_ meth_ c_ ls R Qq hR hQ C0 hr hlk hname hM hl
  have hx := C0.1.1
  have hb := C0.1.2.1
  have hS : va_S A s_.heap s_.heap [] := va_S.rf
  have hl : lv_has ls 4 [(0, .ref x), (1, .int (nI k0)), (2, .int (nI 0))] := hl
  have hec10 := hW.2.2.2.2.1
  have hec1 := hW.2.2.2.1
  have hl40 := hW.2.2.2.2.2.2
  refine lv_aload_n hx hb dX3_log_0 rfl (lv_at hl 0 rfl) ?_
  refine mr_getr (r := p) (TT := TX3) (N := 7) C0 uX3_log_X3 hM hX.1.1 hX.1.2 rfl 0 (by decide) rfl kX3_log_f10 rfl dX3_log_1 ?_
  refine mr_getr (r := p + 78) (TT := TX2) (N := 10) C0 uX3_log_X2 hM hX.2.1.1.1 hX.2.1.1.2 rfl 9 (by decide) rfl kX3_log_f171 rfl dX3_log_4 ?_
  refine lv_astore_n (lv' := [(3, .ref (p + 78)), (0, .ref x), (1, .int (nI k0)), (2, .int (nI 0))]) hx hb dX3_log_7 rfl hl (by decide) rfl (fun ls hl => ?_)
  refine lv_iload_n hx hb dX3_log_8 rfl (lv_at hl 2 rfl) ?_
  refine lv_if_lt (tgt := 29) hx hb dX3_log_9 (by decide) (fun c1 => absurd c1 (nI_pos (by omega))) (fun c1 => ?_)
  refine lv_iload_n hx hb dX3_log_12 rfl (lv_at hl 2 rfl) ?_
  refine lv_aload_n hx hb dX3_log_13 rfl (lv_at hl 0 rfl) ?_
  have hw2 := hW.2.2.2.2.2.2
  refine mr_geti (v := nI lc) (TT := TX0) (N := 5) C0 uX3_log_X0 hM hX.2.1.2.2.2.2.2.2.2.2.1.1 hX.2.1.2.2.2.2.2.2.2.2.1.2 rfl 4 (by decide) rfl hW.2.2.2.2.2.1 kX3_log_f69 rfl dX3_log_14 ?_
  refine mr_geN (x := k0) (y := lc) (tgt := 29) C0 dX3_log_17 (by decide) (by omega) (by omega) (fun c3 => absurd c3 (by omega)) (fun c3 => ?_)
  refine lv_iload_n hx hb dX3_log_20 rfl (lv_at hl 3 rfl) ?_
  refine lv_iconst (v := nI 0) hx hb dX3_log_21 (by decide) ?_
  refine lv_iconst (v := nI 3) hx hb dX3_log_22 (by decide) ?_
  refine mr_callS (As := [.int (nI 0), .int (nI 0), .int (nI 3)]) C0 (ctX3_isWithin (I := I) (J := J) (v := (nI 0)) (lo := (nI 0)) (up := (nI 3)) ) (va_cwS 3 C0.1.2.2.2.2 gX3_log_X3_isWithin rfl rfl rfl (by decide +kernel) (by rw [hR]; exact ⟨Nat.le_of_ble_eq_true rfl, Nat.le_of_ble_eq_true rfl⟩)) hM hS rfl rfl rfl hl.1 (Nat.le_of_ble_eq_true rfl) dX3_log_23 (by rw [hR]; exact ⟨Nat.zero_le _, Nat.zero_le _⟩) (fun H locs hM hS => ?_)
  refine mr_neB (tgt := 31) C0 dX3_log_26 (by decide) (fun c4 => ?_) (fun c4 => absurd c4 (by decide))
  refine lv_iload_n hx hb dX3_log_31 rfl (lv_at hl 3 rfl) ?_
  refine lv_tableIn (off := 28) (tgt := 60) hx hb dX3_log_32 (by decide) (by decide) (by decide) (by decide) ?_
  refine lv_aload_n hx hb dX3_log_60 rfl (lv_at hl 0 rfl) ?_
  refine lv_iload_n hx hb dX3_log_61 rfl (lv_at hl 2 rfl) ?_
  refine mr_callV (As := [.int (nI k0)]) C0 (ctX0_numberAt_t (I := I) (J := J) (a := (p + 78)) (k := k0) hX.2.1.2.2.2.2.2.2.2.2 hW.2.2.2.2.2.1 (by omega) (by omega) (by omega)) (cwV 1 C0.1.2.2.2.2 gX3_log_X0_numberAt rfl rfl rfl (by decide +kernel) (by rw [hR]; exact ⟨Nat.le_of_ble_eq_true rfl, Nat.le_of_ble_eq_true rfl⟩)) hM hX.2.1.2.2.2.2.2.2.2.2.1.1 hX.2.1.2.2.2.2.2.2.2.2.1.2 rfl rfl hM hS rfl rfl rfl hl.1 (Nat.le_of_ble_eq_true rfl) dX3_log_62 (by rw [hR]; exact ⟨Nat.zero_le _, Nat.zero_le _⟩) (fun H locs hM hS => ?_)
  skip
  exact mr_iret (v := I ((p + 78) + 1) k0) C0 hr hlk hQ hS rfl hM (Nat.le_refl _) (Nat.le_refl _) dX3_log_65
set_option maxHeartbeats 4000000 in
set_option maxRecDepth 100000 in
theorem ctX3_log_1 {l : Launch} {D : va_G} {T : Nat → ClassId} {L : List Nat} {A : Nat → Prop} {Sh : hm_S} {I : hm_I} {J : hm_J} {x p f h m k j : Nat} {hs im : Nat → Nat} (hX : IsX L Sh x p f h m k j hs im) (hA : ApX x p f h m k j hs im) {c : Nat → Nat} {e : Nat → Nat → Nat} {ec lc : Nat} (hW : WfS I p c e ec lc) {k0 : Nat} (hck : k0 < lc) :
    Ct l yX3_log wsX3_log { frames := 2, cells := 0, slots := 0, locals := 42 } 0 0 D T A [.ref x, .int (nI k0), .int (nI 1)] (hm D T L A Sh I J) (some (.int (I ((p + 78) + 2) k0))) (hm D T L A Sh I J) := by
  refine Ct.ofW (cc := cX3_log) (maxL := 4) (ret := (some .int)) (by decide) rfl (Nat.le_of_ble_eq_true rfl) ?_
  intro p_ e_ s_ m_ args_ below_ meth_ c_ ls R Qq hR hQ C0 hr hlk hname hM hl
  have hx := C0.1.1
  have hb := C0.1.2.1
  have hS : va_S A s_.heap s_.heap [] := va_S.rf
  have hl : lv_has ls 4 [(0, .ref x), (1, .int (nI k0)), (2, .int (nI 1))] := hl
  have hec10 := hW.2.2.2.2.1
  have hec1 := hW.2.2.2.1
  have hl40 := hW.2.2.2.2.2.2
  refine lv_aload_n hx hb dX3_log_0 rfl (lv_at hl 0 rfl) ?_
  refine mr_getr (r := p) (TT := TX3) (N := 7) C0 uX3_log_X3 hM hX.1.1 hX.1.2 rfl 0 (by decide) rfl kX3_log_f10 rfl dX3_log_1 ?_
  refine mr_getr (r := p + 78) (TT := TX2) (N := 10) C0 uX3_log_X2 hM hX.2.1.1.1 hX.2.1.1.2 rfl 9 (by decide) rfl kX3_log_f171 rfl dX3_log_4 ?_
  refine lv_astore_n (lv' := [(3, .ref (p + 78)), (0, .ref x), (1, .int (nI k0)), (2, .int (nI 1))]) hx hb dX3_log_7 rfl hl (by decide) rfl (fun ls hl => ?_)
  refine lv_iload_n hx hb dX3_log_8 rfl (lv_at hl 2 rfl) ?_
  refine lv_if_lt (tgt := 29) hx hb dX3_log_9 (by decide) (fun c1 => absurd c1 (nI_pos (by omega))) (fun c1 => ?_)
  refine lv_iload_n hx hb dX3_log_12 rfl (lv_at hl 2 rfl) ?_
  refine lv_aload_n hx hb dX3_log_13 rfl (lv_at hl 0 rfl) ?_
  have hw2 := hW.2.2.2.2.2.2
  refine mr_geti (v := nI lc) (TT := TX0) (N := 5) C0 uX3_log_X0 hM hX.2.1.2.2.2.2.2.2.2.2.1.1 hX.2.1.2.2.2.2.2.2.2.2.1.2 rfl 4 (by decide) rfl hW.2.2.2.2.2.1 kX3_log_f69 rfl dX3_log_14 ?_
  refine mr_geN (x := k0) (y := lc) (tgt := 29) C0 dX3_log_17 (by decide) (by omega) (by omega) (fun c3 => absurd c3 (by omega)) (fun c3 => ?_)
  refine lv_iload_n hx hb dX3_log_20 rfl (lv_at hl 3 rfl) ?_
  refine lv_iconst (v := nI 0) hx hb dX3_log_21 (by decide) ?_
  refine lv_iconst (v := nI 3) hx hb dX3_log_22 (by decide) ?_
  refine mr_callS (As := [.int (nI 1), .int (nI 0), .int (nI 3)]) C0 (ctX3_isWithin (I := I) (J := J) (v := (nI 1)) (lo := (nI 0)) (up := (nI 3)) ) (va_cwS 3 C0.1.2.2.2.2 gX3_log_X3_isWithin rfl rfl rfl (by decide +kernel) (by rw [hR]; exact ⟨Nat.le_of_ble_eq_true rfl, Nat.le_of_ble_eq_true rfl⟩)) hM hS rfl rfl rfl hl.1 (Nat.le_of_ble_eq_true rfl) dX3_log_23 (by rw [hR]; exact ⟨Nat.zero_le _, Nat.zero_le _⟩) (fun H locs hM hS => ?_)
  refine mr_neB (tgt := 31) C0 dX3_log_26 (by decide) (fun c4 => ?_) (fun c4 => absurd c4 (by decide))
  refine lv_iload_n hx hb dX3_log_31 rfl (lv_at hl 3 rfl) ?_
  refine lv_tableIn (off := 34) (tgt := 66) hx hb dX3_log_32 (by decide) (by decide) (by decide) (by decide) ?_
  refine lv_aload_n hx hb dX3_log_66 rfl (lv_at hl 0 rfl) ?_
  refine lv_iload_n hx hb dX3_log_67 rfl (lv_at hl 2 rfl) ?_
  refine mr_callV (As := [.int (nI k0)]) C0 (ctX0_streamAt_t (I := I) (J := J) (a := (p + 78)) (k := k0) hX.2.1.2.2.2.2.2.2.2.2 hW.2.2.2.2.2.1 (by omega) (by omega) (by omega)) (cwV 1 C0.1.2.2.2.2 gX3_log_X0_streamAt rfl rfl rfl (by decide +kernel) (by rw [hR]; exact ⟨Nat.le_of_ble_eq_true rfl, Nat.le_of_ble_eq_true rfl⟩)) hM hX.2.1.2.2.2.2.2.2.2.2.1.1 hX.2.1.2.2.2.2.2.2.2.2.1.2 rfl rfl hM hS rfl rfl rfl hl.1 (Nat.le_of_ble_eq_true rfl) dX3_log_68 (by rw [hR]; exact ⟨Nat.zero_le _, Nat.zero_le _⟩) (fun H locs hM hS => ?_)
  skip
  exact mr_iret (v := I ((p + 78) + 2) k0) C0 hr hlk hQ hS rfl hM (Nat.le_refl _) (Nat.le_refl _) dX3_log_71
set_option maxHeartbeats 4000000 in
set_option maxRecDepth 100000 in
theorem ctX3_log_2 {l : Launch} {D : va_G} {T : Nat → ClassId} {L : List Nat} {A : Nat → Prop} {Sh : hm_S} {I : hm_I} {J : hm_J} {x p f h m k j : Nat} {hs im : Nat → Nat} (hX : IsX L Sh x p f h m k j hs im) (hA : ApX x p f h m k j hs im) {c : Nat → Nat} {e : Nat → Nat → Nat} {ec lc : Nat} (hW : WfS I p c e ec lc) {k0 : Nat} (hck : k0 < lc) :
    Ct l yX3_log wsX3_log { frames := 2, cells := 0, slots := 0, locals := 42 } 0 0 D T A [.ref x, .int (nI k0), .int (nI 2)] (hm D T L A Sh I J) (some (.int (I ((p + 78) + 3) k0))) (hm D T L A Sh I J) := by
  refine Ct.ofW (cc := cX3_log) (maxL := 4) (ret := (some .int)) (by decide) rfl (Nat.le_of_ble_eq_true rfl) ?_
  intro p_ e_ s_ m_ args_ below_ meth_ c_ ls R Qq hR hQ C0 hr hlk hname hM hl
  have hx := C0.1.1
  have hb := C0.1.2.1
  have hS : va_S A s_.heap s_.heap [] := va_S.rf
  have hl : lv_has ls 4 [(0, .ref x), (1, .int (nI k0)), (2, .int (nI 2))] := hl
  have hec10 := hW.2.2.2.2.1
  have hec1 := hW.2.2.2.1
  have hl40 := hW.2.2.2.2.2.2
  refine lv_aload_n hx hb dX3_log_0 rfl (lv_at hl 0 rfl) ?_
  refine mr_getr (r := p) (TT := TX3) (N := 7) C0 uX3_log_X3 hM hX.1.1 hX.1.2 rfl 0 (by decide) rfl kX3_log_f10 rfl dX3_log_1 ?_
  refine mr_getr (r := p + 78) (TT := TX2) (N := 10) C0 uX3_log_X2 hM hX.2.1.1.1 hX.2.1.1.2 rfl 9 (by decide) rfl kX3_log_f171 rfl dX3_log_4 ?_
  refine lv_astore_n (lv' := [(3, .ref (p + 78)), (0, .ref x), (1, .int (nI k0)), (2, .int (nI 2))]) hx hb dX3_log_7 rfl hl (by decide) rfl (fun ls hl => ?_)
  refine lv_iload_n hx hb dX3_log_8 rfl (lv_at hl 2 rfl) ?_
  refine lv_if_lt (tgt := 29) hx hb dX3_log_9 (by decide) (fun c1 => absurd c1 (nI_pos (by omega))) (fun c1 => ?_)
  refine lv_iload_n hx hb dX3_log_12 rfl (lv_at hl 2 rfl) ?_
  refine lv_aload_n hx hb dX3_log_13 rfl (lv_at hl 0 rfl) ?_
  have hw2 := hW.2.2.2.2.2.2
  refine mr_geti (v := nI lc) (TT := TX0) (N := 5) C0 uX3_log_X0 hM hX.2.1.2.2.2.2.2.2.2.2.1.1 hX.2.1.2.2.2.2.2.2.2.2.1.2 rfl 4 (by decide) rfl hW.2.2.2.2.2.1 kX3_log_f69 rfl dX3_log_14 ?_
  refine mr_geN (x := k0) (y := lc) (tgt := 29) C0 dX3_log_17 (by decide) (by omega) (by omega) (fun c3 => absurd c3 (by omega)) (fun c3 => ?_)
  refine lv_iload_n hx hb dX3_log_20 rfl (lv_at hl 3 rfl) ?_
  refine lv_iconst (v := nI 0) hx hb dX3_log_21 (by decide) ?_
  refine lv_iconst (v := nI 3) hx hb dX3_log_22 (by decide) ?_
  refine mr_callS (As := [.int (nI 2), .int (nI 0), .int (nI 3)]) C0 (ctX3_isWithin (I := I) (J := J) (v := (nI 2)) (lo := (nI 0)) (up := (nI 3)) ) (va_cwS 3 C0.1.2.2.2.2 gX3_log_X3_isWithin rfl rfl rfl (by decide +kernel) (by rw [hR]; exact ⟨Nat.le_of_ble_eq_true rfl, Nat.le_of_ble_eq_true rfl⟩)) hM hS rfl rfl rfl hl.1 (Nat.le_of_ble_eq_true rfl) dX3_log_23 (by rw [hR]; exact ⟨Nat.zero_le _, Nat.zero_le _⟩) (fun H locs hM hS => ?_)
  refine mr_neB (tgt := 31) C0 dX3_log_26 (by decide) (fun c4 => ?_) (fun c4 => absurd c4 (by decide))
  refine lv_iload_n hx hb dX3_log_31 rfl (lv_at hl 3 rfl) ?_
  refine lv_tableIn (off := 40) (tgt := 72) hx hb dX3_log_32 (by decide) (by decide) (by decide) (by decide) ?_
  refine lv_aload_n hx hb dX3_log_72 rfl (lv_at hl 0 rfl) ?_
  refine lv_iload_n hx hb dX3_log_73 rfl (lv_at hl 2 rfl) ?_
  refine mr_callV (As := [.int (nI k0)]) C0 (ctX0_sizeAt_t (I := I) (J := J) (a := (p + 78)) (k := k0) hX.2.1.2.2.2.2.2.2.2.2 hW.2.2.2.2.2.1 (by omega) (by omega) (by omega)) (cwV 1 C0.1.2.2.2.2 gX3_log_X0_sizeAt rfl rfl rfl (by decide +kernel) (by rw [hR]; exact ⟨Nat.le_of_ble_eq_true rfl, Nat.le_of_ble_eq_true rfl⟩)) hM hX.2.1.2.2.2.2.2.2.2.2.1.1 hX.2.1.2.2.2.2.2.2.2.2.1.2 rfl rfl hM hS rfl rfl rfl hl.1 (Nat.le_of_ble_eq_true rfl) dX3_log_74 (by rw [hR]; exact ⟨Nat.zero_le _, Nat.zero_le _⟩) (fun H locs hM hS => ?_)
  skip
  exact mr_iret (v := I ((p + 78) + 3) k0) C0 hr hlk hQ hS rfl hM (Nat.le_refl _) (Nat.le_refl _) dX3_log_77
set_option maxHeartbeats 4000000 in
set_option maxRecDepth 100000 in
theorem ctX3_log_3 {l : Launch} {D : va_G} {T : Nat → ClassId} {L : List Nat} {A : Nat → Prop} {Sh : hm_S} {I : hm_I} {J : hm_J} {x p f h m k j : Nat} {hs im : Nat → Nat} (hX : IsX L Sh x p f h m k j hs im) (hA : ApX x p f h m k j hs im) {c : Nat → Nat} {e : Nat → Nat → Nat} {ec lc : Nat} (hW : WfS I p c e ec lc) {k0 : Nat} (hck : k0 < lc) :
    Ct l yX3_log wsX3_log { frames := 2, cells := 0, slots := 0, locals := 42 } 0 0 D T A [.ref x, .int (nI k0), .int (nI 3)] (hm D T L A Sh I J) (some (.int (I ((p + 78) + 4) k0))) (hm D T L A Sh I J) := by
  refine Ct.ofW (cc := cX3_log) (maxL := 4) (ret := (some .int)) (by decide) rfl (Nat.le_of_ble_eq_true rfl) ?_
  intro p_ e_ s_ m_ args_ below_ meth_ c_ ls R Qq hR hQ C0 hr hlk hname hM hl
  have hx := C0.1.1
  have hb := C0.1.2.1
  have hS : va_S A s_.heap s_.heap [] := va_S.rf
  have hl : lv_has ls 4 [(0, .ref x), (1, .int (nI k0)), (2, .int (nI 3))] := hl
  have hec10 := hW.2.2.2.2.1
  have hec1 := hW.2.2.2.1
  have hl40 := hW.2.2.2.2.2.2
  refine lv_aload_n hx hb dX3_log_0 rfl (lv_at hl 0 rfl) ?_
  refine mr_getr (r := p) (TT := TX3) (N := 7) C0 uX3_log_X3 hM hX.1.1 hX.1.2 rfl 0 (by decide) rfl kX3_log_f10 rfl dX3_log_1 ?_
  refine mr_getr (r := p + 78) (TT := TX2) (N := 10) C0 uX3_log_X2 hM hX.2.1.1.1 hX.2.1.1.2 rfl 9 (by decide) rfl kX3_log_f171 rfl dX3_log_4 ?_
  refine lv_astore_n (lv' := [(3, .ref (p + 78)), (0, .ref x), (1, .int (nI k0)), (2, .int (nI 3))]) hx hb dX3_log_7 rfl hl (by decide) rfl (fun ls hl => ?_)
  refine lv_iload_n hx hb dX3_log_8 rfl (lv_at hl 2 rfl) ?_
  refine lv_if_lt (tgt := 29) hx hb dX3_log_9 (by decide) (fun c1 => absurd c1 (nI_pos (by omega))) (fun c1 => ?_)
  refine lv_iload_n hx hb dX3_log_12 rfl (lv_at hl 2 rfl) ?_
  refine lv_aload_n hx hb dX3_log_13 rfl (lv_at hl 0 rfl) ?_
  have hw2 := hW.2.2.2.2.2.2
  refine mr_geti (v := nI lc) (TT := TX0) (N := 5) C0 uX3_log_X0 hM hX.2.1.2.2.2.2.2.2.2.2.1.1 hX.2.1.2.2.2.2.2.2.2.2.1.2 rfl 4 (by decide) rfl hW.2.2.2.2.2.1 kX3_log_f69 rfl dX3_log_14 ?_
  refine mr_geN (x := k0) (y := lc) (tgt := 29) C0 dX3_log_17 (by decide) (by omega) (by omega) (fun c3 => absurd c3 (by omega)) (fun c3 => ?_)
  refine lv_iload_n hx hb dX3_log_20 rfl (lv_at hl 3 rfl) ?_
  refine lv_iconst (v := nI 0) hx hb dX3_log_21 (by decide) ?_
  refine lv_iconst (v := nI 3) hx hb dX3_log_22 (by decide) ?_
  refine mr_callS (As := [.int (nI 3), .int (nI 0), .int (nI 3)]) C0 (ctX3_isWithin (I := I) (J := J) (v := (nI 3)) (lo := (nI 0)) (up := (nI 3)) ) (va_cwS 3 C0.1.2.2.2.2 gX3_log_X3_isWithin rfl rfl rfl (by decide +kernel) (by rw [hR]; exact ⟨Nat.le_of_ble_eq_true rfl, Nat.le_of_ble_eq_true rfl⟩)) hM hS rfl rfl rfl hl.1 (Nat.le_of_ble_eq_true rfl) dX3_log_23 (by rw [hR]; exact ⟨Nat.zero_le _, Nat.zero_le _⟩) (fun H locs hM hS => ?_)
  refine mr_neB (tgt := 31) C0 dX3_log_26 (by decide) (fun c4 => ?_) (fun c4 => absurd c4 (by decide))
  refine lv_iload_n hx hb dX3_log_31 rfl (lv_at hl 3 rfl) ?_
  refine lv_tableOut (tgt := 78) hx hb dX3_log_32 (by decide) (by decide) ?_
  refine lv_aload_n hx hb dX3_log_78 rfl (lv_at hl 0 rfl) ?_
  refine lv_iload_n hx hb dX3_log_79 rfl (lv_at hl 2 rfl) ?_
  refine mr_callV (As := [.int (nI k0)]) C0 (ctX0_epochAt_t (I := I) (J := J) (a := (p + 78)) (k := k0) hX.2.1.2.2.2.2.2.2.2.2 hW.2.2.2.2.2.1 (by omega) (by omega) (by omega)) (cwV 1 C0.1.2.2.2.2 gX3_log_X0_epochAt rfl rfl rfl (by decide +kernel) (by rw [hR]; exact ⟨Nat.le_of_ble_eq_true rfl, Nat.le_of_ble_eq_true rfl⟩)) hM hX.2.1.2.2.2.2.2.2.2.2.1.1 hX.2.1.2.2.2.2.2.2.2.2.1.2 rfl rfl hM hS rfl rfl rfl hl.1 (Nat.le_of_ble_eq_true rfl) dX3_log_80 (by rw [hR]; exact ⟨Nat.zero_le _, Nat.zero_le _⟩) (fun H locs hM hS => ?_)
  skip
  exact mr_iret (v := I ((p + 78) + 4) k0) C0 hr hlk hQ hS rfl hM (Nat.le_refl _) (Nat.le_refl _) dX3_log_83
set_option maxHeartbeats 4000000 in
set_option maxRecDepth 100000 in
theorem ctX3_relation_b {l : Launch} {D : va_G} {T : Nat → ClassId} {L : List Nat} {A : Nat → Prop} {Sh : hm_S} {I : hm_I} {J : hm_J} {x p f h m k j : Nat} {hs im : Nat → Nat} (hX : IsX L Sh x p f h m k j hs im) (hA : ApX x p f h m k j hs im) {c : Nat → Nat} {e : Nat → Nat → Nat} {ec lc : Nat} (hW : WfS I p c e ec lc) {e0 a0 b0 : Int32} (hb0 : (fX3_isEpochOrDraft ec e0 && fX3_areTwoStreams a0 b0) = false) :
    Ct l yX3_relation wsX3_relation { frames := 2, cells := 0, slots := 0, locals := 42 } 0 0 D T A [.ref x, .int e0, .int a0, .int b0] (hm D T L A Sh I J) (some (.int (-1))) (hm D T L A Sh I J) := by
  refine Ct.ofW (cc := cX3_relation) (maxL := 5) (ret := (some .int)) (by decide) rfl (Nat.le_of_ble_eq_true rfl) ?_
  intro p_ e_ s_ m_ args_ below_ meth_ c_ ls R Qq hR hQ C0 hr hlk hname hM hl
  have hx := C0.1.1
  have hb := C0.1.2.1
  have hS : va_S A s_.heap s_.heap [] := va_S.rf
  have hl : lv_has ls 5 [(0, .ref x), (1, .int e0), (2, .int a0), (3, .int b0)] := hl
  have hec10 := hW.2.2.2.2.1
  have hec1 := hW.2.2.2.1
  refine lv_aload_n hx hb dX3_relation_0 rfl (lv_at hl 0 rfl) ?_
  refine lv_iload_n hx hb dX3_relation_1 rfl (lv_at hl 1 rfl) ?_
  refine mr_callV (As := [.int e0]) C0 (ctX3_isEpochOrDraft (I := I) (J := J) (e0 := e0) hX hA hW) (cwV 1 C0.1.2.2.2.2 gX3_relation_X3_isEpochOrDraft rfl rfl rfl (by decide +kernel) (by rw [hR]; exact ⟨Nat.le_of_ble_eq_true rfl, Nat.le_of_ble_eq_true rfl⟩)) hM hX.1.1 hX.1.2 rfl rfl hM hS rfl rfl rfl hl.1 (Nat.le_of_ble_eq_true rfl) dX3_relation_2 (by rw [hR]; exact ⟨Nat.zero_le _, Nat.zero_le _⟩) (fun H locs hM hS => ?_)
  refine mr_eqB (tgt := 16) C0 dX3_relation_5 (by decide) (fun c1 => ?_) (fun c1 => ?_)
  · skip
    refine lv_iconst (v := (-1)) hx hb dX3_relation_16 (by decide) ?_
    skip
    exact mr_iret (v := (-1)) C0 hr hlk hQ hS rfl hM (Nat.le_refl _) (Nat.le_refl _) dX3_relation_17
  · skip
    refine lv_iload_n hx hb dX3_relation_8 rfl (lv_at hl 2 rfl) ?_
    refine lv_iload_n hx hb dX3_relation_9 rfl (lv_at hl 3 rfl) ?_
    refine mr_callS (As := [.int a0, .int b0]) C0 (ctX3_areTwoStreams (I := I) (J := J) (a0 := a0) (b0 := b0) ) (va_cwS 2 C0.1.2.2.2.2 gX3_relation_X3_areTwoStreams rfl rfl rfl (by decide +kernel) (by rw [hR]; exact ⟨Nat.le_of_ble_eq_true rfl, Nat.le_of_ble_eq_true rfl⟩)) hM hS rfl rfl rfl hl.1 (Nat.le_of_ble_eq_true rfl) dX3_relation_10 (by rw [hR]; exact ⟨Nat.zero_le _, Nat.zero_le _⟩) (fun H locs hM hS => ?_)
    refine mr_neB (tgt := 18) C0 dX3_relation_13 (by decide) (fun c2 => absurd hb0 (by rw [c1, c2]; decide)) (fun c2 => ?_)
    refine lv_iconst (v := (-1)) hx hb dX3_relation_16 (by decide) ?_
    skip
    exact mr_iret (v := (-1)) C0 hr hlk hQ hS rfl hM (Nat.le_refl _) (Nat.le_refl _) dX3_relation_17
set_option maxHeartbeats 4000000 in
set_option maxRecDepth 100000 in
theorem ctX3_order_b {l : Launch} {D : va_G} {T : Nat → ClassId} {L : List Nat} {A : Nat → Prop} {Sh : hm_S} {I : hm_I} {J : hm_J} {x p f h m k j : Nat} {hs im : Nat → Nat} (hX : IsX L Sh x p f h m k j hs im) (hA : ApX x p f h m k j hs im) {c : Nat → Nat} {e : Nat → Nat → Nat} {ec lc : Nat} (hW : WfS I p c e ec lc) {e0 w0 : Int32} (hb0 : (fX3_isEpochOrDraft ec e0 && fX3_isWithin w0 (nI 0) (nI 4)) = false) :
    Ct l yX3_order wsX3_order { frames := 2, cells := 0, slots := 0, locals := 42 } 0 0 D T A [.ref x, .int e0, .int w0] (hm D T L A Sh I J) (some (.int (-1))) (hm D T L A Sh I J) := by
  refine Ct.ofW (cc := cX3_order) (maxL := 4) (ret := (some .int)) (by decide) rfl (Nat.le_of_ble_eq_true rfl) ?_
  intro p_ e_ s_ m_ args_ below_ meth_ c_ ls R Qq hR hQ C0 hr hlk hname hM hl
  have hx := C0.1.1
  have hb := C0.1.2.1
  have hS : va_S A s_.heap s_.heap [] := va_S.rf
  have hl : lv_has ls 4 [(0, .ref x), (1, .int e0), (2, .int w0)] := hl
  have hec10 := hW.2.2.2.2.1
  have hec1 := hW.2.2.2.1
  refine lv_aload_n hx hb dX3_order_0 rfl (lv_at hl 0 rfl) ?_
  refine lv_iload_n hx hb dX3_order_1 rfl (lv_at hl 1 rfl) ?_
  refine mr_callV (As := [.int e0]) C0 (ctX3_isEpochOrDraft (I := I) (J := J) (e0 := e0) hX hA hW) (cwV 1 C0.1.2.2.2.2 gX3_order_X3_isEpochOrDraft rfl rfl rfl (by decide +kernel) (by rw [hR]; exact ⟨Nat.le_of_ble_eq_true rfl, Nat.le_of_ble_eq_true rfl⟩)) hM hX.1.1 hX.1.2 rfl rfl hM hS rfl rfl rfl hl.1 (Nat.le_of_ble_eq_true rfl) dX3_order_2 (by rw [hR]; exact ⟨Nat.zero_le _, Nat.zero_le _⟩) (fun H locs hM hS => ?_)
  refine mr_eqB (tgt := 17) C0 dX3_order_5 (by decide) (fun c1 => ?_) (fun c1 => ?_)
  · skip
    refine lv_iconst (v := (-1)) hx hb dX3_order_17 (by decide) ?_
    skip
    exact mr_iret (v := (-1)) C0 hr hlk hQ hS rfl hM (Nat.le_refl _) (Nat.le_refl _) dX3_order_18
  · skip
    refine lv_iload_n hx hb dX3_order_8 rfl (lv_at hl 2 rfl) ?_
    refine lv_iconst (v := nI 0) hx hb dX3_order_9 (by decide) ?_
    refine lv_iconst (v := nI 4) hx hb dX3_order_10 (by decide) ?_
    refine mr_callS (As := [.int w0, .int (nI 0), .int (nI 4)]) C0 (ctX3_isWithin (I := I) (J := J) (v := w0) (lo := (nI 0)) (up := (nI 4)) ) (va_cwS 3 C0.1.2.2.2.2 gX3_order_X3_isWithin rfl rfl rfl (by decide +kernel) (by rw [hR]; exact ⟨Nat.le_of_ble_eq_true rfl, Nat.le_of_ble_eq_true rfl⟩)) hM hS rfl rfl rfl hl.1 (Nat.le_of_ble_eq_true rfl) dX3_order_11 (by rw [hR]; exact ⟨Nat.zero_le _, Nat.zero_le _⟩) (fun H locs hM hS => ?_)
    refine mr_neB (tgt := 19) C0 dX3_order_14 (by decide) (fun c2 => absurd hb0 (by rw [c1, c2]; decide)) (fun c2 => ?_)
    refine lv_iconst (v := (-1)) hx hb dX3_order_17 (by decide) ?_
    skip
    exact mr_iret (v := (-1)) C0 hr hlk hQ hS rfl hM (Nat.le_refl _) (Nat.le_refl _) dX3_order_18
set_option maxHeartbeats 4000000 in
set_option maxRecDepth 100000 in
theorem ctX3_lists_b {l : Launch} {D : va_G} {T : Nat → ClassId} {L : List Nat} {A : Nat → Prop} {Sh : hm_S} {I : hm_I} {J : hm_J} {x p f h m k j : Nat} {hs im : Nat → Nat} (hX : IsX L Sh x p f h m k j hs im) (hA : ApX x p f h m k j hs im) {c : Nat → Nat} {e : Nat → Nat → Nat} {ec lc : Nat} (hW : WfS I p c e ec lc) {e0 : Int32} (hb0 : fX3_isEpochOrDraft ec e0 = false) :
    Ct l yX3_lists wsX3_lists { frames := 2, cells := 0, slots := 0, locals := 42 } 0 0 D T A [.ref x, .int e0] (hm D T L A Sh I J) (some (.long (-1))) (hm D T L A Sh I J) := by
  refine Ct.ofW (cc := cX3_lists) (maxL := 2) (ret := (some .long)) (by decide) rfl (Nat.le_of_ble_eq_true rfl) ?_
  intro p_ e_ s_ m_ args_ below_ meth_ c_ ls R Qq hR hQ C0 hr hlk hname hM hl
  have hx := C0.1.1
  have hb := C0.1.2.1
  have hS : va_S A s_.heap s_.heap [] := va_S.rf
  have hl : lv_has ls 2 [(0, .ref x), (1, .int e0)] := hl
  have hec10 := hW.2.2.2.2.1
  have hec1 := hW.2.2.2.1
  refine lv_aload_n hx hb dX3_lists_0 rfl (lv_at hl 0 rfl) ?_
  refine lv_iload_n hx hb dX3_lists_1 rfl (lv_at hl 1 rfl) ?_
  refine mr_callV (As := [.int e0]) C0 (ctX3_isEpochOrDraft (I := I) (J := J) (e0 := e0) hX hA hW) (cwV 1 C0.1.2.2.2.2 gX3_lists_X3_isEpochOrDraft rfl rfl rfl (by decide +kernel) (by rw [hR]; exact ⟨Nat.le_of_ble_eq_true rfl, Nat.le_of_ble_eq_true rfl⟩)) hM hX.1.1 hX.1.2 rfl rfl hM hS rfl rfl rfl hl.1 (Nat.le_of_ble_eq_true rfl) dX3_lists_2 (by rw [hR]; exact ⟨Nat.zero_le _, Nat.zero_le _⟩) (fun H locs hM hS => ?_)
  refine mr_neB (tgt := 12) C0 dX3_lists_5 (by decide) (fun c1 => absurd c1 (by rw [hb0]; decide)) (fun c1 => ?_)
  refine lv_ldc2 (v := (-1)) hx hb C0.1.2.2.2.1 (C0.1.2.2.2.2 _ (List.mem_of_getElem? (i := 1) rfl)) dX3_lists_8 ?_
  skip
  exact mr_lret (v := (-1)) C0 hr hlk hQ hS rfl hM (Nat.le_refl _) (Nat.le_refl _) dX3_lists_11
def fX3_relation_d (I : hm_I) (p a0 b0 : Nat) : Int32 :=
  if fX1_precedes_t I (p + 44) a0 b0 = true then if fX1_hasEdge_t I (p + 44) a0 b0 = true then nI 1 else nI 2 else if fX1_precedes_t I (p + 44) b0 a0 = true then if fX1_hasEdge_t I (p + 44) b0 a0 = true then nI 3 else nI 4 else nI 0
set_option maxHeartbeats 4000000 in
set_option maxRecDepth 100000 in
theorem ctX3_relation_d {l : Launch} {D : va_G} {T : Nat → ClassId} {L : List Nat} {A : Nat → Prop} {Sh : hm_S} {I : hm_I} {J : hm_J} {x p f h m k j : Nat} {hs im : Nat → Nat} (hX : IsX L Sh x p f h m k j hs im) (hA : ApX x p f h m k j hs im) {c : Nat → Nat} {e : Nat → Nat → Nat} {ec lc : Nat} (hW : WfS I p c e ec lc) (ho : fX3_isEpochOrDraft ec ((-1)) = true) {a0 b0 : Nat} (ha0 : a0 < 8) (hb0 : b0 < 8) (hab : a0 ≠ b0) :
    Ct l yX3_relation wsX3_relation { frames := 2, cells := 0, slots := 0, locals := 43 } 0 0 D T A [.ref x, .int (-1), .int (nI a0), .int (nI b0)] (hm D T L A Sh I J) (some (.int (fX3_relation_d I p a0 b0))) (hm D T L A Sh I J) := by
  refine Ct.ofW (cc := cX3_relation) (maxL := 5) (ret := (some .int)) (by decide) rfl (Nat.le_of_ble_eq_true rfl) ?_
  intro p_ e_ s_ m_ args_ below_ meth_ c_ ls R Qq hR hQ C0 hr hlk hname hM hl
  have hx := C0.1.1
  have hb := C0.1.2.1
  have hS : va_S A s_.heap s_.heap [] := va_S.rf
  have hl : lv_has ls 5 [(0, .ref x), (1, .int (-1)), (2, .int (nI a0)), (3, .int (nI b0))] := hl
  have hec10 := hW.2.2.2.2.1
  have hec1 := hW.2.2.2.1
  refine lv_aload_n hx hb dX3_relation_0 rfl (lv_at hl 0 rfl) ?_
  refine lv_iload_n hx hb dX3_relation_1 rfl (lv_at hl 1 rfl) ?_
  refine mr_callV (As := [.int (-1)]) C0 (ctX3_isEpochOrDraft (I := I) (J := J) (e0 := (-1)) hX hA hW) (cwV 1 C0.1.2.2.2.2 gX3_relation_X3_isEpochOrDraft rfl rfl rfl (by decide +kernel) (by rw [hR]; exact ⟨Nat.le_of_ble_eq_true rfl, Nat.le_of_ble_eq_true rfl⟩)) hM hX.1.1 hX.1.2 rfl rfl hM hS rfl rfl rfl hl.1 (Nat.le_of_ble_eq_true rfl) dX3_relation_2 (by rw [hR]; exact ⟨Nat.zero_le _, Nat.zero_le _⟩) (fun H locs hM hS => ?_)
  refine mr_eqB (tgt := 16) C0 dX3_relation_5 (by decide) (fun c1 => absurd c1 (by rw [ho]; decide)) (fun c1 => ?_)
  refine lv_iload_n hx hb dX3_relation_8 rfl (lv_at hl 2 rfl) ?_
  refine lv_iload_n hx hb dX3_relation_9 rfl (lv_at hl 3 rfl) ?_
  refine mr_callS (As := [.int (nI a0), .int (nI b0)]) C0 (ctX3_areTwoStreams_t (I := I) (J := J) (a0 := a0) (b0 := b0) (by omega) (by omega) (by omega)) (va_cwS 2 C0.1.2.2.2.2 gX3_relation_X3_areTwoStreams rfl rfl rfl (by decide +kernel) (by rw [hR]; exact ⟨Nat.le_of_ble_eq_true rfl, Nat.le_of_ble_eq_true rfl⟩)) hM hS rfl rfl rfl hl.1 (Nat.le_of_ble_eq_true rfl) dX3_relation_10 (by rw [hR]; exact ⟨Nat.zero_le _, Nat.zero_le _⟩) (fun H locs hM hS => ?_)
  refine mr_neB (tgt := 18) C0 dX3_relation_13 (by decide) (fun _ => ?_) (fun c2 => absurd c2 (by decide))
  refine lv_aload_n hx hb dX3_relation_18 rfl (lv_at hl 0 rfl) ?_
  refine mr_getr (r := p) (TT := TX3) (N := 7) C0 uX3_relation_X3 hM hX.1.1 hX.1.2 rfl 0 (by decide) rfl kX3_relation_f10 rfl dX3_relation_19 ?_
  refine lv_iload_n hx hb dX3_relation_22 rfl (lv_at hl 1 rfl) ?_
  refine mr_callV (As := [.int (-1)]) C0 (ctX2_orderOf_d (I := I) (J := J) (q := p) (e0 := (-1)) hX.2.1 (by decide)) (cwV 1 C0.1.2.2.2.2 gX3_relation_X2_orderOf rfl rfl rfl (by decide +kernel) (by rw [hR]; exact ⟨Nat.le_of_ble_eq_true rfl, Nat.le_of_ble_eq_true rfl⟩)) hM hX.2.1.1.1 hX.2.1.1.2 rfl rfl hM hS rfl rfl rfl hl.1 (Nat.le_of_ble_eq_true rfl) dX3_relation_23 (by rw [hR]; exact ⟨Nat.zero_le _, Nat.zero_le _⟩) (fun H locs hM hS => ?_)
  refine lv_astore (lv' := [(4, .ref (p + 44)), (0, .ref x), (1, .int (-1)), (2, .int (nI a0)), (3, .int (nI b0))]) hx hb dX3_relation_26 hl (by decide) rfl (fun ls hl => ?_)
  refine lv_aload hx hb dX3_relation_28 (lv_at hl 0 rfl) ?_
  refine lv_iload_n hx hb dX3_relation_30 rfl (lv_at hl 3 rfl) ?_
  refine lv_iload_n hx hb dX3_relation_31 rfl (lv_at hl 4 rfl) ?_
  refine mr_callV (As := [.int (nI a0), .int (nI b0)]) C0 (ctX1_precedes_t (I := I) (J := J) (a := (p + 44)) (x := a0) (y := b0) hX.2.1.2.2.2.2.2.1 (by omega)) (cwV 2 C0.1.2.2.2.2 gX3_relation_X1_precedes rfl rfl rfl (by decide +kernel) (by rw [hR]; exact ⟨Nat.le_of_ble_eq_true rfl, Nat.le_of_ble_eq_true rfl⟩)) hM hX.2.1.2.2.2.2.2.1.1.1 hX.2.1.2.2.2.2.2.1.1.2 rfl rfl hM hS rfl rfl rfl hl.1 (Nat.le_of_ble_eq_true rfl) dX3_relation_32 (by rw [hR]; exact ⟨Nat.zero_le _, Nat.zero_le _⟩) (fun H locs hM hS => ?_)
  refine mr_eqB (tgt := 54) C0 dX3_relation_35 (by decide) (fun c3 => ?_) (fun c3 => ?_)
  · skip
    refine lv_aload hx hb dX3_relation_54 (lv_at hl 0 rfl) ?_
    refine lv_iload_n hx hb dX3_relation_56 rfl (lv_at hl 4 rfl) ?_
    refine lv_iload_n hx hb dX3_relation_57 rfl (lv_at hl 3 rfl) ?_
    refine mr_callV (As := [.int (nI b0), .int (nI a0)]) C0 (ctX1_precedes_t (I := I) (J := J) (a := (p + 44)) (x := b0) (y := a0) hX.2.1.2.2.2.2.2.1 (by omega)) (cwV 2 C0.1.2.2.2.2 gX3_relation_X1_precedes rfl rfl rfl (by decide +kernel) (by rw [hR]; exact ⟨Nat.le_of_ble_eq_true rfl, Nat.le_of_ble_eq_true rfl⟩)) hM hX.2.1.2.2.2.2.2.1.1.1 hX.2.1.2.2.2.2.2.1.1.2 rfl rfl hM hS rfl rfl rfl hl.1 (Nat.le_of_ble_eq_true rfl) dX3_relation_58 (by rw [hR]; exact ⟨Nat.zero_le _, Nat.zero_le _⟩) (fun H locs hM hS => ?_)
    refine mr_eqB (tgt := 80) C0 dX3_relation_61 (by decide) (fun c4 => ?_) (fun c4 => ?_)
    · skip
      refine lv_iconst (v := nI 0) hx hb dX3_relation_80 (by decide) ?_
      have eF : nI 0 = fX3_relation_d I p a0 b0 := by unfold fX3_relation_d; rw [if_neg (Bool.eq_false_iff.mp c3), if_neg (Bool.eq_false_iff.mp c4)]
      exact mr_iret (v := nI 0) C0 hr hlk hQ hS (by rw [← eF]) hM (Nat.le_refl _) (Nat.le_refl _) dX3_relation_81
    · skip
      refine lv_aload hx hb dX3_relation_64 (lv_at hl 0 rfl) ?_
      refine lv_iload_n hx hb dX3_relation_66 rfl (lv_at hl 4 rfl) ?_
      refine lv_iload_n hx hb dX3_relation_67 rfl (lv_at hl 3 rfl) ?_
      refine mr_callV (As := [.int (nI b0), .int (nI a0)]) C0 (ctX1_hasEdge_t (I := I) (J := J) (a := (p + 44)) (x := b0) (y := a0) hX.2.1.2.2.2.2.2.1 (by omega)) (cwV 2 C0.1.2.2.2.2 gX3_relation_X1_hasEdge rfl rfl rfl (by decide +kernel) (by rw [hR]; exact ⟨Nat.le_of_ble_eq_true rfl, Nat.le_of_ble_eq_true rfl⟩)) hM hX.2.1.2.2.2.2.2.1.1.1 hX.2.1.2.2.2.2.2.1.1.2 rfl rfl hM hS rfl rfl rfl hl.1 (Nat.le_of_ble_eq_true rfl) dX3_relation_68 (by rw [hR]; exact ⟨Nat.zero_le _, Nat.zero_le _⟩) (fun H locs hM hS => ?_)
      refine mr_eqB (tgt := 78) C0 dX3_relation_71 (by decide) (fun c5 => ?_) (fun c5 => ?_)
      · skip
        refine lv_iconst (v := nI 4) hx hb dX3_relation_78 (by decide) ?_
        have eF : nI 4 = fX3_relation_d I p a0 b0 := by unfold fX3_relation_d; rw [if_neg (Bool.eq_false_iff.mp c3), if_pos c4, if_neg (Bool.eq_false_iff.mp c5)]
        exact mr_iret (v := nI 4) C0 hr hlk hQ hS (by rw [← eF]) hM (Nat.le_refl _) (Nat.le_refl _) dX3_relation_79
      · skip
        refine lv_iconst (v := nI 3) hx hb dX3_relation_74 (by decide) ?_
        refine lv_goto (tgt := 79) hx hb dX3_relation_75 (by decide) ?_
        have eF : nI 3 = fX3_relation_d I p a0 b0 := by unfold fX3_relation_d; rw [if_neg (Bool.eq_false_iff.mp c3), if_pos c4, if_pos c5]
        exact mr_iret (v := nI 3) C0 hr hlk hQ hS (by rw [← eF]) hM (Nat.le_refl _) (Nat.le_refl _) dX3_relation_79
  · skip
    refine lv_aload hx hb dX3_relation_38 (lv_at hl 0 rfl) ?_
    refine lv_iload_n hx hb dX3_relation_40 rfl (lv_at hl 3 rfl) ?_
    refine lv_iload_n hx hb dX3_relation_41 rfl (lv_at hl 4 rfl) ?_
    refine mr_callV (As := [.int (nI a0), .int (nI b0)]) C0 (ctX1_hasEdge_t (I := I) (J := J) (a := (p + 44)) (x := a0) (y := b0) hX.2.1.2.2.2.2.2.1 (by omega)) (cwV 2 C0.1.2.2.2.2 gX3_relation_X1_hasEdge rfl rfl rfl (by decide +kernel) (by rw [hR]; exact ⟨Nat.le_of_ble_eq_true rfl, Nat.le_of_ble_eq_true rfl⟩)) hM hX.2.1.2.2.2.2.2.1.1.1 hX.2.1.2.2.2.2.2.1.1.2 rfl rfl hM hS rfl rfl rfl hl.1 (Nat.le_of_ble_eq_true rfl) dX3_relation_42 (by rw [hR]; exact ⟨Nat.zero_le _, Nat.zero_le _⟩) (fun H locs hM hS => ?_)
    refine mr_eqB (tgt := 52) C0 dX3_relation_45 (by decide) (fun c6 => ?_) (fun c6 => ?_)
    · skip
      refine lv_iconst (v := nI 2) hx hb dX3_relation_52 (by decide) ?_
      have eF : nI 2 = fX3_relation_d I p a0 b0 := by unfold fX3_relation_d; rw [if_pos c3, if_neg (Bool.eq_false_iff.mp c6)]
      exact mr_iret (v := nI 2) C0 hr hlk hQ hS (by rw [← eF]) hM (Nat.le_refl _) (Nat.le_refl _) dX3_relation_53
    · skip
      refine lv_iconst (v := nI 1) hx hb dX3_relation_48 (by decide) ?_
      refine lv_goto (tgt := 53) hx hb dX3_relation_49 (by decide) ?_
      have eF : nI 1 = fX3_relation_d I p a0 b0 := by unfold fX3_relation_d; rw [if_pos c3, if_pos c6]
      exact mr_iret (v := nI 1) C0 hr hlk hQ hS (by rw [← eF]) hM (Nat.le_refl _) (Nat.le_refl _) dX3_relation_53
set_option maxHeartbeats 4000000 in
set_option maxRecDepth 100000 in
theorem ctX3_order_d0 {l : Launch} {D : va_G} {T : Nat → ClassId} {L : List Nat} {A : Nat → Prop} {Sh : hm_S} {I : hm_I} {J : hm_J} {x p f h m k j : Nat} {hs im : Nat → Nat} (hX : IsX L Sh x p f h m k j hs im) (hA : ApX x p f h m k j hs im) {c : Nat → Nat} {e : Nat → Nat → Nat} {ec lc : Nat} (hW : WfS I p c e ec lc) (ho : fX3_isEpochOrDraft ec ((-1)) = true) :
    Ct l yX3_order wsX3_order { frames := 2, cells := 0, slots := 0, locals := 44 } 0 0 D T A [.ref x, .int (-1), .int (nI 0)] (hm D T L A Sh I J) (some (.int (fX1_pairsAmong I (p + 44) (I p 0)))) (hm D T L A Sh I J) := by
  refine Ct.ofW (cc := cX3_order) (maxL := 4) (ret := (some .int)) (by decide) rfl (Nat.le_of_ble_eq_true rfl) ?_
  intro p_ e_ s_ m_ args_ below_ meth_ c_ ls R Qq hR hQ C0 hr hlk hname hM hl
  have hx := C0.1.1
  have hb := C0.1.2.1
  have hS : va_S A s_.heap s_.heap [] := va_S.rf
  have hl : lv_has ls 4 [(0, .ref x), (1, .int (-1)), (2, .int (nI 0))] := hl
  have hec10 := hW.2.2.2.2.1
  have hec1 := hW.2.2.2.1
  refine lv_aload_n hx hb dX3_order_0 rfl (lv_at hl 0 rfl) ?_
  refine lv_iload_n hx hb dX3_order_1 rfl (lv_at hl 1 rfl) ?_
  refine mr_callV (As := [.int (-1)]) C0 (ctX3_isEpochOrDraft (I := I) (J := J) (e0 := (-1)) hX hA hW) (cwV 1 C0.1.2.2.2.2 gX3_order_X3_isEpochOrDraft rfl rfl rfl (by decide +kernel) (by rw [hR]; exact ⟨Nat.le_of_ble_eq_true rfl, Nat.le_of_ble_eq_true rfl⟩)) hM hX.1.1 hX.1.2 rfl rfl hM hS rfl rfl rfl hl.1 (Nat.le_of_ble_eq_true rfl) dX3_order_2 (by rw [hR]; exact ⟨Nat.zero_le _, Nat.zero_le _⟩) (fun H locs hM hS => ?_)
  refine mr_eqB (tgt := 17) C0 dX3_order_5 (by decide) (fun c1 => absurd c1 (by rw [ho]; decide)) (fun c1 => ?_)
  refine lv_iload_n hx hb dX3_order_8 rfl (lv_at hl 2 rfl) ?_
  refine lv_iconst (v := nI 0) hx hb dX3_order_9 (by decide) ?_
  refine lv_iconst (v := nI 4) hx hb dX3_order_10 (by decide) ?_
  refine mr_callS (As := [.int (nI 0), .int (nI 0), .int (nI 4)]) C0 (ctX3_isWithin (I := I) (J := J) (v := (nI 0)) (lo := (nI 0)) (up := (nI 4)) ) (va_cwS 3 C0.1.2.2.2.2 gX3_order_X3_isWithin rfl rfl rfl (by decide +kernel) (by rw [hR]; exact ⟨Nat.le_of_ble_eq_true rfl, Nat.le_of_ble_eq_true rfl⟩)) hM hS rfl rfl rfl hl.1 (Nat.le_of_ble_eq_true rfl) dX3_order_11 (by rw [hR]; exact ⟨Nat.zero_le _, Nat.zero_le _⟩) (fun H locs hM hS => ?_)
  refine mr_neB (tgt := 19) C0 dX3_order_14 (by decide) (fun c2 => ?_) (fun c2 => absurd c2 (by decide))
  refine lv_aload_n hx hb dX3_order_19 rfl (lv_at hl 0 rfl) ?_
  refine mr_getr (r := p) (TT := TX3) (N := 7) C0 uX3_order_X3 hM hX.1.1 hX.1.2 rfl 0 (by decide) rfl kX3_order_f10 rfl dX3_order_20 ?_
  refine lv_iload_n hx hb dX3_order_23 rfl (lv_at hl 1 rfl) ?_
  refine mr_callV (As := [.int (-1)]) C0 (ctX2_orderOf_d (I := I) (J := J) (q := p) (e0 := (-1)) hX.2.1 (by decide)) (cwV 1 C0.1.2.2.2.2 gX3_order_X2_orderOf rfl rfl rfl (by decide +kernel) (by rw [hR]; exact ⟨Nat.le_of_ble_eq_true rfl, Nat.le_of_ble_eq_true rfl⟩)) hM hX.2.1.1.1 hX.2.1.1.2 rfl rfl hM hS rfl rfl rfl hl.1 (Nat.le_of_ble_eq_true rfl) dX3_order_24 (by rw [hR]; exact ⟨Nat.zero_le _, Nat.zero_le _⟩) (fun H locs hM hS => ?_)
  refine lv_astore_n (lv' := [(3, .ref (p + 44)), (0, .ref x), (1, .int (-1)), (2, .int (nI 0))]) hx hb dX3_order_27 rfl hl (by decide) rfl (fun ls hl => ?_)
  refine lv_iload_n hx hb dX3_order_28 rfl (lv_at hl 3 rfl) ?_
  refine lv_tableIn (off := 31) (tgt := 60) hx hb dX3_order_29 (by decide) (by decide) (by decide) (by decide) ?_
  refine lv_aload_n hx hb dX3_order_60 rfl (lv_at hl 0 rfl) ?_
  refine lv_aload_n hx hb dX3_order_61 rfl (lv_at hl 1 rfl) ?_
  refine mr_getr (r := p) (TT := TX3) (N := 7) C0 uX3_order_X3 hM hX.1.1 hX.1.2 rfl 0 (by decide) rfl kX3_order_f10 rfl dX3_order_62 ?_
  refine mr_geti (v := I p 0) (TT := TX2) (N := 10) C0 uX3_order_X2 hM hX.2.1.1.1 hX.2.1.1.2 rfl 0 (by decide) rfl rfl kX3_order_f56 rfl dX3_order_65 ?_
  refine mr_callV (As := [.int (I p 0)]) C0 (ctX1_pairsAmong (I := I) (J := J) (a := (p + 44)) (u := (I p 0)) hX.2.1.2.2.2.2.2.1) (cwV 1 C0.1.2.2.2.2 gX3_order_X1_pairsAmong rfl rfl rfl (by decide +kernel) (by rw [hR]; exact ⟨Nat.le_of_ble_eq_true rfl, Nat.le_of_ble_eq_true rfl⟩)) hM hX.2.1.2.2.2.2.2.1.1.1 hX.2.1.2.2.2.2.2.1.1.2 rfl rfl hM hS rfl rfl rfl hl.1 (Nat.le_of_ble_eq_true rfl) dX3_order_68 (by rw [hR]; exact ⟨Nat.zero_le _, Nat.zero_le _⟩) (fun H locs hM hS => ?_)
  skip
  exact mr_iret (v := fX1_pairsAmong I (p + 44) (I p 0)) C0 hr hlk hQ hS rfl hM (Nat.le_refl _) (Nat.le_refl _) dX3_order_71
set_option maxHeartbeats 4000000 in
set_option maxRecDepth 100000 in
theorem ctX3_order_d1 {l : Launch} {D : va_G} {T : Nat → ClassId} {L : List Nat} {A : Nat → Prop} {Sh : hm_S} {I : hm_I} {J : hm_J} {x p f h m k j : Nat} {hs im : Nat → Nat} (hX : IsX L Sh x p f h m k j hs im) (hA : ApX x p f h m k j hs im) {c : Nat → Nat} {e : Nat → Nat → Nat} {ec lc : Nat} (hW : WfS I p c e ec lc) (ho : fX3_isEpochOrDraft ec ((-1)) = true) :
    Ct l yX3_order wsX3_order { frames := 3, cells := 0, slots := 0, locals := 67 } 0 0 D T A [.ref x, .int (-1), .int (nI 1)] (hm D T L A Sh I J) (some (.int (fX1_longestChainAmong I (p + 44) (I p 0)))) (hm D T L A Sh I J) := by
  refine Ct.ofW (cc := cX3_order) (maxL := 4) (ret := (some .int)) (by decide) rfl (Nat.le_of_ble_eq_true rfl) ?_
  intro p_ e_ s_ m_ args_ below_ meth_ c_ ls R Qq hR hQ C0 hr hlk hname hM hl
  have hx := C0.1.1
  have hb := C0.1.2.1
  have hS : va_S A s_.heap s_.heap [] := va_S.rf
  have hl : lv_has ls 4 [(0, .ref x), (1, .int (-1)), (2, .int (nI 1))] := hl
  have hec10 := hW.2.2.2.2.1
  have hec1 := hW.2.2.2.1
  refine lv_aload_n hx hb dX3_order_0 rfl (lv_at hl 0 rfl) ?_
  refine lv_iload_n hx hb dX3_order_1 rfl (lv_at hl 1 rfl) ?_
  refine mr_callV (As := [.int (-1)]) C0 (ctX3_isEpochOrDraft (I := I) (J := J) (e0 := (-1)) hX hA hW) (cwV 1 C0.1.2.2.2.2 gX3_order_X3_isEpochOrDraft rfl rfl rfl (by decide +kernel) (by rw [hR]; exact ⟨Nat.le_of_ble_eq_true rfl, Nat.le_of_ble_eq_true rfl⟩)) hM hX.1.1 hX.1.2 rfl rfl hM hS rfl rfl rfl hl.1 (Nat.le_of_ble_eq_true rfl) dX3_order_2 (by rw [hR]; exact ⟨Nat.zero_le _, Nat.zero_le _⟩) (fun H locs hM hS => ?_)
  refine mr_eqB (tgt := 17) C0 dX3_order_5 (by decide) (fun c1 => absurd c1 (by rw [ho]; decide)) (fun c1 => ?_)
  refine lv_iload_n hx hb dX3_order_8 rfl (lv_at hl 2 rfl) ?_
  refine lv_iconst (v := nI 0) hx hb dX3_order_9 (by decide) ?_
  refine lv_iconst (v := nI 4) hx hb dX3_order_10 (by decide) ?_
  refine mr_callS (As := [.int (nI 1), .int (nI 0), .int (nI 4)]) C0 (ctX3_isWithin (I := I) (J := J) (v := (nI 1)) (lo := (nI 0)) (up := (nI 4)) ) (va_cwS 3 C0.1.2.2.2.2 gX3_order_X3_isWithin rfl rfl rfl (by decide +kernel) (by rw [hR]; exact ⟨Nat.le_of_ble_eq_true rfl, Nat.le_of_ble_eq_true rfl⟩)) hM hS rfl rfl rfl hl.1 (Nat.le_of_ble_eq_true rfl) dX3_order_11 (by rw [hR]; exact ⟨Nat.zero_le _, Nat.zero_le _⟩) (fun H locs hM hS => ?_)
  refine mr_neB (tgt := 19) C0 dX3_order_14 (by decide) (fun c2 => ?_) (fun c2 => absurd c2 (by decide))
  refine lv_aload_n hx hb dX3_order_19 rfl (lv_at hl 0 rfl) ?_
  refine mr_getr (r := p) (TT := TX3) (N := 7) C0 uX3_order_X3 hM hX.1.1 hX.1.2 rfl 0 (by decide) rfl kX3_order_f10 rfl dX3_order_20 ?_
  refine lv_iload_n hx hb dX3_order_23 rfl (lv_at hl 1 rfl) ?_
  refine mr_callV (As := [.int (-1)]) C0 (ctX2_orderOf_d (I := I) (J := J) (q := p) (e0 := (-1)) hX.2.1 (by decide)) (cwV 1 C0.1.2.2.2.2 gX3_order_X2_orderOf rfl rfl rfl (by decide +kernel) (by rw [hR]; exact ⟨Nat.le_of_ble_eq_true rfl, Nat.le_of_ble_eq_true rfl⟩)) hM hX.2.1.1.1 hX.2.1.1.2 rfl rfl hM hS rfl rfl rfl hl.1 (Nat.le_of_ble_eq_true rfl) dX3_order_24 (by rw [hR]; exact ⟨Nat.zero_le _, Nat.zero_le _⟩) (fun H locs hM hS => ?_)
  refine lv_astore_n (lv' := [(3, .ref (p + 44)), (0, .ref x), (1, .int (-1)), (2, .int (nI 1))]) hx hb dX3_order_27 rfl hl (by decide) rfl (fun ls hl => ?_)
  refine lv_iload_n hx hb dX3_order_28 rfl (lv_at hl 3 rfl) ?_
  refine lv_tableIn (off := 43) (tgt := 72) hx hb dX3_order_29 (by decide) (by decide) (by decide) (by decide) ?_
  refine lv_aload_n hx hb dX3_order_72 rfl (lv_at hl 0 rfl) ?_
  refine lv_aload_n hx hb dX3_order_73 rfl (lv_at hl 1 rfl) ?_
  refine mr_getr (r := p) (TT := TX3) (N := 7) C0 uX3_order_X3 hM hX.1.1 hX.1.2 rfl 0 (by decide) rfl kX3_order_f10 rfl dX3_order_74 ?_
  refine mr_geti (v := I p 0) (TT := TX2) (N := 10) C0 uX3_order_X2 hM hX.2.1.1.1 hX.2.1.1.2 rfl 0 (by decide) rfl rfl kX3_order_f56 rfl dX3_order_77 ?_
  refine mr_callV (As := [.int (I p 0)]) C0 (ctX1_longestChainAmong (I := I) (J := J) (a := (p + 44)) (u := (I p 0)) hX.2.1.2.2.2.2.2.1) (cwV 1 C0.1.2.2.2.2 gX3_order_X1_longestChainAmong rfl rfl rfl (by decide +kernel) (by rw [hR]; exact ⟨Nat.le_of_ble_eq_true rfl, Nat.le_of_ble_eq_true rfl⟩)) hM hX.2.1.2.2.2.2.2.1.1.1 hX.2.1.2.2.2.2.2.1.1.2 rfl rfl hM hS rfl rfl rfl hl.1 (Nat.le_of_ble_eq_true rfl) dX3_order_80 (by rw [hR]; exact ⟨Nat.zero_le _, Nat.zero_le _⟩) (fun H locs hM hS => ?_)
  skip
  exact mr_iret (v := fX1_longestChainAmong I (p + 44) (I p 0)) C0 hr hlk hQ hS rfl hM (Nat.le_refl _) (Nat.le_refl _) dX3_order_83
set_option maxHeartbeats 4000000 in
set_option maxRecDepth 100000 in
theorem ctX3_order_d2 {l : Launch} {D : va_G} {T : Nat → ClassId} {L : List Nat} {A : Nat → Prop} {Sh : hm_S} {I : hm_I} {J : hm_J} {x p f h m k j : Nat} {hs im : Nat → Nat} (hX : IsX L Sh x p f h m k j hs im) (hA : ApX x p f h m k j hs im) {c : Nat → Nat} {e : Nat → Nat → Nat} {ec lc : Nat} (hW : WfS I p c e ec lc) (ho : fX3_isEpochOrDraft ec ((-1)) = true) :
    Ct l yX3_order wsX3_order { frames := 3, cells := 0, slots := 0, locals := 68 } 0 0 D T A [.ref x, .int (-1), .int (nI 2)] (hm D T L A Sh I J) (some (.int (fX1_widestChoiceAmong I (p + 44) (I p 0)))) (hm D T L A Sh I J) := by
  refine Ct.ofW (cc := cX3_order) (maxL := 4) (ret := (some .int)) (by decide) rfl (Nat.le_of_ble_eq_true rfl) ?_
  intro p_ e_ s_ m_ args_ below_ meth_ c_ ls R Qq hR hQ C0 hr hlk hname hM hl
  have hx := C0.1.1
  have hb := C0.1.2.1
  have hS : va_S A s_.heap s_.heap [] := va_S.rf
  have hl : lv_has ls 4 [(0, .ref x), (1, .int (-1)), (2, .int (nI 2))] := hl
  have hec10 := hW.2.2.2.2.1
  have hec1 := hW.2.2.2.1
  refine lv_aload_n hx hb dX3_order_0 rfl (lv_at hl 0 rfl) ?_
  refine lv_iload_n hx hb dX3_order_1 rfl (lv_at hl 1 rfl) ?_
  refine mr_callV (As := [.int (-1)]) C0 (ctX3_isEpochOrDraft (I := I) (J := J) (e0 := (-1)) hX hA hW) (cwV 1 C0.1.2.2.2.2 gX3_order_X3_isEpochOrDraft rfl rfl rfl (by decide +kernel) (by rw [hR]; exact ⟨Nat.le_of_ble_eq_true rfl, Nat.le_of_ble_eq_true rfl⟩)) hM hX.1.1 hX.1.2 rfl rfl hM hS rfl rfl rfl hl.1 (Nat.le_of_ble_eq_true rfl) dX3_order_2 (by rw [hR]; exact ⟨Nat.zero_le _, Nat.zero_le _⟩) (fun H locs hM hS => ?_)
  refine mr_eqB (tgt := 17) C0 dX3_order_5 (by decide) (fun c1 => absurd c1 (by rw [ho]; decide)) (fun c1 => ?_)
  refine lv_iload_n hx hb dX3_order_8 rfl (lv_at hl 2 rfl) ?_
  refine lv_iconst (v := nI 0) hx hb dX3_order_9 (by decide) ?_
  refine lv_iconst (v := nI 4) hx hb dX3_order_10 (by decide) ?_
  refine mr_callS (As := [.int (nI 2), .int (nI 0), .int (nI 4)]) C0 (ctX3_isWithin (I := I) (J := J) (v := (nI 2)) (lo := (nI 0)) (up := (nI 4)) ) (va_cwS 3 C0.1.2.2.2.2 gX3_order_X3_isWithin rfl rfl rfl (by decide +kernel) (by rw [hR]; exact ⟨Nat.le_of_ble_eq_true rfl, Nat.le_of_ble_eq_true rfl⟩)) hM hS rfl rfl rfl hl.1 (Nat.le_of_ble_eq_true rfl) dX3_order_11 (by rw [hR]; exact ⟨Nat.zero_le _, Nat.zero_le _⟩) (fun H locs hM hS => ?_)
  refine mr_neB (tgt := 19) C0 dX3_order_14 (by decide) (fun c2 => ?_) (fun c2 => absurd c2 (by decide))
  refine lv_aload_n hx hb dX3_order_19 rfl (lv_at hl 0 rfl) ?_
  refine mr_getr (r := p) (TT := TX3) (N := 7) C0 uX3_order_X3 hM hX.1.1 hX.1.2 rfl 0 (by decide) rfl kX3_order_f10 rfl dX3_order_20 ?_
  refine lv_iload_n hx hb dX3_order_23 rfl (lv_at hl 1 rfl) ?_
  refine mr_callV (As := [.int (-1)]) C0 (ctX2_orderOf_d (I := I) (J := J) (q := p) (e0 := (-1)) hX.2.1 (by decide)) (cwV 1 C0.1.2.2.2.2 gX3_order_X2_orderOf rfl rfl rfl (by decide +kernel) (by rw [hR]; exact ⟨Nat.le_of_ble_eq_true rfl, Nat.le_of_ble_eq_true rfl⟩)) hM hX.2.1.1.1 hX.2.1.1.2 rfl rfl hM hS rfl rfl rfl hl.1 (Nat.le_of_ble_eq_true rfl) dX3_order_24 (by rw [hR]; exact ⟨Nat.zero_le _, Nat.zero_le _⟩) (fun H locs hM hS => ?_)
  refine lv_astore_n (lv' := [(3, .ref (p + 44)), (0, .ref x), (1, .int (-1)), (2, .int (nI 2))]) hx hb dX3_order_27 rfl hl (by decide) rfl (fun ls hl => ?_)
  refine lv_iload_n hx hb dX3_order_28 rfl (lv_at hl 3 rfl) ?_
  refine lv_tableIn (off := 55) (tgt := 84) hx hb dX3_order_29 (by decide) (by decide) (by decide) (by decide) ?_
  refine lv_aload_n hx hb dX3_order_84 rfl (lv_at hl 0 rfl) ?_
  refine lv_aload_n hx hb dX3_order_85 rfl (lv_at hl 1 rfl) ?_
  refine mr_getr (r := p) (TT := TX3) (N := 7) C0 uX3_order_X3 hM hX.1.1 hX.1.2 rfl 0 (by decide) rfl kX3_order_f10 rfl dX3_order_86 ?_
  refine mr_geti (v := I p 0) (TT := TX2) (N := 10) C0 uX3_order_X2 hM hX.2.1.1.1 hX.2.1.1.2 rfl 0 (by decide) rfl rfl kX3_order_f56 rfl dX3_order_89 ?_
  refine mr_callV (As := [.int (I p 0)]) C0 (ctX1_widestChoiceAmong (I := I) (J := J) (a := (p + 44)) (u := (I p 0)) hX.2.1.2.2.2.2.2.1) (cwV 1 C0.1.2.2.2.2 gX3_order_X1_widestChoiceAmong rfl rfl rfl (by decide +kernel) (by rw [hR]; exact ⟨Nat.le_of_ble_eq_true rfl, Nat.le_of_ble_eq_true rfl⟩)) hM hX.2.1.2.2.2.2.2.1.1.1 hX.2.1.2.2.2.2.2.1.1.2 rfl rfl hM hS rfl rfl rfl hl.1 (Nat.le_of_ble_eq_true rfl) dX3_order_92 (by rw [hR]; exact ⟨Nat.zero_le _, Nat.zero_le _⟩) (fun H locs hM hS => ?_)
  skip
  exact mr_iret (v := fX1_widestChoiceAmong I (p + 44) (I p 0)) C0 hr hlk hQ hS rfl hM (Nat.le_refl _) (Nat.le_refl _) dX3_order_95
set_option maxHeartbeats 4000000 in
set_option maxRecDepth 100000 in
theorem ctX3_order_d3 {l : Launch} {D : va_G} {T : Nat → ClassId} {L : List Nat} {A : Nat → Prop} {Sh : hm_S} {I : hm_I} {J : hm_J} {x p f h m k j : Nat} {hs im : Nat → Nat} (hX : IsX L Sh x p f h m k j hs im) (hA : ApX x p f h m k j hs im) {c : Nat → Nat} {e : Nat → Nat → Nat} {ec lc : Nat} (hW : WfS I p c e ec lc) (ho : fX3_isEpochOrDraft ec ((-1)) = true) :
    Ct l yX3_order wsX3_order { frames := 2, cells := 0, slots := 0, locals := 44 } 0 0 D T A [.ref x, .int (-1), .int (nI 3)] (hm D T L A Sh I J) (some (.int (fJ6_bitCount_0f7a4 (fX1_firstOf I (p + 44) (I p 0))))) (hm D T L A Sh I J) := by
  refine Ct.ofW (cc := cX3_order) (maxL := 4) (ret := (some .int)) (by decide) rfl (Nat.le_of_ble_eq_true rfl) ?_
  intro p_ e_ s_ m_ args_ below_ meth_ c_ ls R Qq hR hQ C0 hr hlk hname hM hl
  have hx := C0.1.1
  have hb := C0.1.2.1
  have hS : va_S A s_.heap s_.heap [] := va_S.rf
  have hl : lv_has ls 4 [(0, .ref x), (1, .int (-1)), (2, .int (nI 3))] := hl
  have hec10 := hW.2.2.2.2.1
  have hec1 := hW.2.2.2.1
  refine lv_aload_n hx hb dX3_order_0 rfl (lv_at hl 0 rfl) ?_
  refine lv_iload_n hx hb dX3_order_1 rfl (lv_at hl 1 rfl) ?_
  refine mr_callV (As := [.int (-1)]) C0 (ctX3_isEpochOrDraft (I := I) (J := J) (e0 := (-1)) hX hA hW) (cwV 1 C0.1.2.2.2.2 gX3_order_X3_isEpochOrDraft rfl rfl rfl (by decide +kernel) (by rw [hR]; exact ⟨Nat.le_of_ble_eq_true rfl, Nat.le_of_ble_eq_true rfl⟩)) hM hX.1.1 hX.1.2 rfl rfl hM hS rfl rfl rfl hl.1 (Nat.le_of_ble_eq_true rfl) dX3_order_2 (by rw [hR]; exact ⟨Nat.zero_le _, Nat.zero_le _⟩) (fun H locs hM hS => ?_)
  refine mr_eqB (tgt := 17) C0 dX3_order_5 (by decide) (fun c1 => absurd c1 (by rw [ho]; decide)) (fun c1 => ?_)
  refine lv_iload_n hx hb dX3_order_8 rfl (lv_at hl 2 rfl) ?_
  refine lv_iconst (v := nI 0) hx hb dX3_order_9 (by decide) ?_
  refine lv_iconst (v := nI 4) hx hb dX3_order_10 (by decide) ?_
  refine mr_callS (As := [.int (nI 3), .int (nI 0), .int (nI 4)]) C0 (ctX3_isWithin (I := I) (J := J) (v := (nI 3)) (lo := (nI 0)) (up := (nI 4)) ) (va_cwS 3 C0.1.2.2.2.2 gX3_order_X3_isWithin rfl rfl rfl (by decide +kernel) (by rw [hR]; exact ⟨Nat.le_of_ble_eq_true rfl, Nat.le_of_ble_eq_true rfl⟩)) hM hS rfl rfl rfl hl.1 (Nat.le_of_ble_eq_true rfl) dX3_order_11 (by rw [hR]; exact ⟨Nat.zero_le _, Nat.zero_le _⟩) (fun H locs hM hS => ?_)
  refine mr_neB (tgt := 19) C0 dX3_order_14 (by decide) (fun c2 => ?_) (fun c2 => absurd c2 (by decide))
  refine lv_aload_n hx hb dX3_order_19 rfl (lv_at hl 0 rfl) ?_
  refine mr_getr (r := p) (TT := TX3) (N := 7) C0 uX3_order_X3 hM hX.1.1 hX.1.2 rfl 0 (by decide) rfl kX3_order_f10 rfl dX3_order_20 ?_
  refine lv_iload_n hx hb dX3_order_23 rfl (lv_at hl 1 rfl) ?_
  refine mr_callV (As := [.int (-1)]) C0 (ctX2_orderOf_d (I := I) (J := J) (q := p) (e0 := (-1)) hX.2.1 (by decide)) (cwV 1 C0.1.2.2.2.2 gX3_order_X2_orderOf rfl rfl rfl (by decide +kernel) (by rw [hR]; exact ⟨Nat.le_of_ble_eq_true rfl, Nat.le_of_ble_eq_true rfl⟩)) hM hX.2.1.1.1 hX.2.1.1.2 rfl rfl hM hS rfl rfl rfl hl.1 (Nat.le_of_ble_eq_true rfl) dX3_order_24 (by rw [hR]; exact ⟨Nat.zero_le _, Nat.zero_le _⟩) (fun H locs hM hS => ?_)
  refine lv_astore_n (lv' := [(3, .ref (p + 44)), (0, .ref x), (1, .int (-1)), (2, .int (nI 3))]) hx hb dX3_order_27 rfl hl (by decide) rfl (fun ls hl => ?_)
  refine lv_iload_n hx hb dX3_order_28 rfl (lv_at hl 3 rfl) ?_
  refine lv_tableIn (off := 67) (tgt := 96) hx hb dX3_order_29 (by decide) (by decide) (by decide) (by decide) ?_
  refine lv_aload_n hx hb dX3_order_96 rfl (lv_at hl 0 rfl) ?_
  refine lv_aload_n hx hb dX3_order_97 rfl (lv_at hl 1 rfl) ?_
  refine mr_getr (r := p) (TT := TX3) (N := 7) C0 uX3_order_X3 hM hX.1.1 hX.1.2 rfl 0 (by decide) rfl kX3_order_f10 rfl dX3_order_98 ?_
  refine mr_geti (v := I p 0) (TT := TX2) (N := 10) C0 uX3_order_X2 hM hX.2.1.1.1 hX.2.1.1.2 rfl 0 (by decide) rfl rfl kX3_order_f56 rfl dX3_order_101 ?_
  refine mr_callV (As := [.int (I p 0)]) C0 (ctX1_firstOf (I := I) (J := J) (a := (p + 44)) (u := (I p 0)) hX.2.1.2.2.2.2.2.1) (cwV 1 C0.1.2.2.2.2 gX3_order_X1_firstOf rfl rfl rfl (by decide +kernel) (by rw [hR]; exact ⟨Nat.le_of_ble_eq_true rfl, Nat.le_of_ble_eq_true rfl⟩)) hM hX.2.1.2.2.2.2.2.1.1.1 hX.2.1.2.2.2.2.2.1.1.2 rfl rfl hM hS rfl rfl rfl hl.1 (Nat.le_of_ble_eq_true rfl) dX3_order_104 (by rw [hR]; exact ⟨Nat.zero_le _, Nat.zero_le _⟩) (fun H locs hM hS => ?_)
  refine mr_callS (As := [.int (fX1_firstOf I (p + 44) (I p 0))]) C0 (ctJ6_bitCount_0f7a4 (I := I) (J := J) (u0 := (fX1_firstOf I (p + 44) (I p 0))) ) (va_cwS 1 C0.1.2.2.2.2 gX3_order_J6_bitCount_0f7a4 rfl rfl rfl (by decide +kernel) (by rw [hR]; exact ⟨Nat.le_of_ble_eq_true rfl, Nat.le_of_ble_eq_true rfl⟩)) hM hS rfl rfl rfl hl.1 (Nat.le_of_ble_eq_true rfl) dX3_order_107 (by rw [hR]; exact ⟨Nat.zero_le _, Nat.zero_le _⟩) (fun H locs hM hS => ?_)
  skip
  exact mr_iret (v := fJ6_bitCount_0f7a4 (fX1_firstOf I (p + 44) (I p 0))) C0 hr hlk hQ hS rfl hM (Nat.le_refl _) (Nat.le_refl _) dX3_order_110
set_option maxHeartbeats 4000000 in
set_option maxRecDepth 100000 in
theorem ctX3_order_d4 {l : Launch} {D : va_G} {T : Nat → ClassId} {L : List Nat} {A : Nat → Prop} {Sh : hm_S} {I : hm_I} {J : hm_J} {x p f h m k j : Nat} {hs im : Nat → Nat} (hX : IsX L Sh x p f h m k j hs im) (hA : ApX x p f h m k j hs im) {c : Nat → Nat} {e : Nat → Nat → Nat} {ec lc : Nat} (hW : WfS I p c e ec lc) (ho : fX3_isEpochOrDraft ec ((-1)) = true) :
    Ct l yX3_order wsX3_order { frames := 4, cells := 0, slots := 0, locals := 89 } 0 0 D T A [.ref x, .int (-1), .int (nI 4)] (hm D T L A Sh I J) (some (.int (fX1_needlessEdges I (p + 44)))) (hm D T L A Sh I J) := by
  refine Ct.ofW (cc := cX3_order) (maxL := 4) (ret := (some .int)) (by decide) rfl (Nat.le_of_ble_eq_true rfl) ?_
  intro p_ e_ s_ m_ args_ below_ meth_ c_ ls R Qq hR hQ C0 hr hlk hname hM hl
  have hx := C0.1.1
  have hb := C0.1.2.1
  have hS : va_S A s_.heap s_.heap [] := va_S.rf
  have hl : lv_has ls 4 [(0, .ref x), (1, .int (-1)), (2, .int (nI 4))] := hl
  have hec10 := hW.2.2.2.2.1
  have hec1 := hW.2.2.2.1
  refine lv_aload_n hx hb dX3_order_0 rfl (lv_at hl 0 rfl) ?_
  refine lv_iload_n hx hb dX3_order_1 rfl (lv_at hl 1 rfl) ?_
  refine mr_callV (As := [.int (-1)]) C0 (ctX3_isEpochOrDraft (I := I) (J := J) (e0 := (-1)) hX hA hW) (cwV 1 C0.1.2.2.2.2 gX3_order_X3_isEpochOrDraft rfl rfl rfl (by decide +kernel) (by rw [hR]; exact ⟨Nat.le_of_ble_eq_true rfl, Nat.le_of_ble_eq_true rfl⟩)) hM hX.1.1 hX.1.2 rfl rfl hM hS rfl rfl rfl hl.1 (Nat.le_of_ble_eq_true rfl) dX3_order_2 (by rw [hR]; exact ⟨Nat.zero_le _, Nat.zero_le _⟩) (fun H locs hM hS => ?_)
  refine mr_eqB (tgt := 17) C0 dX3_order_5 (by decide) (fun c1 => absurd c1 (by rw [ho]; decide)) (fun c1 => ?_)
  refine lv_iload_n hx hb dX3_order_8 rfl (lv_at hl 2 rfl) ?_
  refine lv_iconst (v := nI 0) hx hb dX3_order_9 (by decide) ?_
  refine lv_iconst (v := nI 4) hx hb dX3_order_10 (by decide) ?_
  refine mr_callS (As := [.int (nI 4), .int (nI 0), .int (nI 4)]) C0 (ctX3_isWithin (I := I) (J := J) (v := (nI 4)) (lo := (nI 0)) (up := (nI 4)) ) (va_cwS 3 C0.1.2.2.2.2 gX3_order_X3_isWithin rfl rfl rfl (by decide +kernel) (by rw [hR]; exact ⟨Nat.le_of_ble_eq_true rfl, Nat.le_of_ble_eq_true rfl⟩)) hM hS rfl rfl rfl hl.1 (Nat.le_of_ble_eq_true rfl) dX3_order_11 (by rw [hR]; exact ⟨Nat.zero_le _, Nat.zero_le _⟩) (fun H locs hM hS => ?_)
  refine mr_neB (tgt := 19) C0 dX3_order_14 (by decide) (fun c2 => ?_) (fun c2 => absurd c2 (by decide))
  refine lv_aload_n hx hb dX3_order_19 rfl (lv_at hl 0 rfl) ?_
  refine mr_getr (r := p) (TT := TX3) (N := 7) C0 uX3_order_X3 hM hX.1.1 hX.1.2 rfl 0 (by decide) rfl kX3_order_f10 rfl dX3_order_20 ?_
  refine lv_iload_n hx hb dX3_order_23 rfl (lv_at hl 1 rfl) ?_
  refine mr_callV (As := [.int (-1)]) C0 (ctX2_orderOf_d (I := I) (J := J) (q := p) (e0 := (-1)) hX.2.1 (by decide)) (cwV 1 C0.1.2.2.2.2 gX3_order_X2_orderOf rfl rfl rfl (by decide +kernel) (by rw [hR]; exact ⟨Nat.le_of_ble_eq_true rfl, Nat.le_of_ble_eq_true rfl⟩)) hM hX.2.1.1.1 hX.2.1.1.2 rfl rfl hM hS rfl rfl rfl hl.1 (Nat.le_of_ble_eq_true rfl) dX3_order_24 (by rw [hR]; exact ⟨Nat.zero_le _, Nat.zero_le _⟩) (fun H locs hM hS => ?_)
  refine lv_astore_n (lv' := [(3, .ref (p + 44)), (0, .ref x), (1, .int (-1)), (2, .int (nI 4))]) hx hb dX3_order_27 rfl hl (by decide) rfl (fun ls hl => ?_)
  refine lv_iload_n hx hb dX3_order_28 rfl (lv_at hl 3 rfl) ?_
  refine lv_tableOut (tgt := 111) hx hb dX3_order_29 (by decide) (by decide) ?_
  refine lv_aload_n hx hb dX3_order_111 rfl (lv_at hl 0 rfl) ?_
  refine mr_callV (As := []) C0 (ctX1_needlessEdges (I := I) (J := J) (a := (p + 44)) hX.2.1.2.2.2.2.2.1) (cwV 0 C0.1.2.2.2.2 gX3_order_X1_needlessEdges rfl rfl rfl (by decide +kernel) (by rw [hR]; exact ⟨Nat.le_of_ble_eq_true rfl, Nat.le_of_ble_eq_true rfl⟩)) hM hX.2.1.2.2.2.2.2.1.1.1 hX.2.1.2.2.2.2.2.1.1.2 rfl rfl hM hS rfl rfl rfl hl.1 (Nat.le_of_ble_eq_true rfl) dX3_order_112 (by rw [hR]; exact ⟨Nat.zero_le _, Nat.zero_le _⟩) (fun H locs hM hS => ?_)
  skip
  exact mr_iret (v := fX1_needlessEdges I (p + 44)) C0 hr hlk hQ hS rfl hM (Nat.le_refl _) (Nat.le_refl _) dX3_order_115
set_option maxHeartbeats 4000000 in
set_option maxRecDepth 100000 in
theorem ctX3_lists_d {l : Launch} {D : va_G} {T : Nat → ClassId} {L : List Nat} {A : Nat → Prop} {Sh : hm_S} {I : hm_I} {J : hm_J} {x p f h m k j : Nat} {hs im : Nat → Nat} (hX : IsX L Sh x p f h m k j hs im) (hA : ApX x p f h m k j hs im) {c : Nat → Nat} {e : Nat → Nat → Nat} {ec lc : Nat} (hW : WfS I p c e ec lc) (ho : fX3_isEpochOrDraft ec ((-1)) = true) {u0 : Nat} (hu0 : u0 < 256) (hset : I p 0 = nI u0) :
    Ct l yX3_lists wsX3_lists { frames := 3, cells := 0, slots := 0, locals := 69 } 0 0 D T A [.ref x, .int (-1)] (hm D T L A Sh I J) (some (.long ((fX1_countLists I J (p + 44) u0 j).1))) (hm D T L A Sh I ((fX1_countLists I J (p + 44) u0 j).2)) := by
  refine Ct.ofW (cc := cX3_lists) (maxL := 2) (ret := (some .long)) (by decide) rfl (Nat.le_of_ble_eq_true rfl) ?_
  intro p_ e_ s_ m_ args_ below_ meth_ c_ ls R Qq hR hQ C0 hr hlk hname hM hl
  have hx := C0.1.1
  have hb := C0.1.2.1
  have hS : va_S A s_.heap s_.heap [] := va_S.rf
  have hl : lv_has ls 2 [(0, .ref x), (1, .int (-1))] := hl
  have hec10 := hW.2.2.2.2.1
  have hec1 := hW.2.2.2.1
  refine lv_aload_n hx hb dX3_lists_0 rfl (lv_at hl 0 rfl) ?_
  refine lv_iload_n hx hb dX3_lists_1 rfl (lv_at hl 1 rfl) ?_
  refine mr_callV (As := [.int (-1)]) C0 (ctX3_isEpochOrDraft (I := I) (J := J) (e0 := (-1)) hX hA hW) (cwV 1 C0.1.2.2.2.2 gX3_lists_X3_isEpochOrDraft rfl rfl rfl (by decide +kernel) (by rw [hR]; exact ⟨Nat.le_of_ble_eq_true rfl, Nat.le_of_ble_eq_true rfl⟩)) hM hX.1.1 hX.1.2 rfl rfl hM hS rfl rfl rfl hl.1 (Nat.le_of_ble_eq_true rfl) dX3_lists_2 (by rw [hR]; exact ⟨Nat.zero_le _, Nat.zero_le _⟩) (fun H locs hM hS => ?_)
  refine mr_neB (tgt := 12) C0 dX3_lists_5 (by decide) (fun c1 => ?_) (fun c1 => absurd c1 (by rw [ho]; decide))
  refine lv_aload_n hx hb dX3_lists_12 rfl (lv_at hl 0 rfl) ?_
  refine mr_getr (r := p) (TT := TX3) (N := 7) C0 uX3_lists_X3 hM hX.1.1 hX.1.2 rfl 0 (by decide) rfl kX3_lists_f10 rfl dX3_lists_13 ?_
  refine lv_iload_n hx hb dX3_lists_16 rfl (lv_at hl 1 rfl) ?_
  refine mr_callV (As := [.int (-1)]) C0 (ctX2_orderOf_d (I := I) (J := J) (q := p) (e0 := (-1)) hX.2.1 (by decide)) (cwV 1 C0.1.2.2.2.2 gX3_lists_X2_orderOf rfl rfl rfl (by decide +kernel) (by rw [hR]; exact ⟨Nat.le_of_ble_eq_true rfl, Nat.le_of_ble_eq_true rfl⟩)) hM hX.2.1.1.1 hX.2.1.1.2 rfl rfl hM hS rfl rfl rfl hl.1 (Nat.le_of_ble_eq_true rfl) dX3_lists_17 (by rw [hR]; exact ⟨Nat.zero_le _, Nat.zero_le _⟩) (fun H locs hM hS => ?_)
  refine lv_aload_n hx hb dX3_lists_20 rfl (lv_at hl 0 rfl) ?_
  refine mr_getr (r := p) (TT := TX3) (N := 7) C0 uX3_lists_X3 hM hX.1.1 hX.1.2 rfl 0 (by decide) rfl kX3_lists_f10 rfl dX3_lists_21 ?_
  refine mr_geti (v := nI u0) (TT := TX2) (N := 10) C0 uX3_lists_X2 hM hX.2.1.1.1 hX.2.1.1.2 rfl 0 (by decide) rfl hset kX3_lists_f56 rfl dX3_lists_24 ?_
  refine lv_aload_n hx hb dX3_lists_27 rfl (lv_at hl 0 rfl) ?_
  refine mr_getr (r := j) (TT := TX3) (N := 7) C0 uX3_lists_X3 hM hX.1.1 hX.1.2 rfl 6 (by decide) rfl kX3_lists_f34 rfl dX3_lists_28 ?_
  refine mr_callV (As := [.int (nI u0), .ref j]) C0 (ctX1_countLists (I := I) (J := J) (a := (p + 44)) (u := u0) (ja := j) hX.2.1.2.2.2.2.2.1 (by omega) ⟨hX.2.2.2.2.2.2.2.2.1, hX.2.2.2.2.2.2.2.2.2⟩) (cwV 2 C0.1.2.2.2.2 gX3_lists_X1_countLists rfl rfl rfl (by decide +kernel) (by rw [hR]; exact ⟨Nat.le_of_ble_eq_true rfl, Nat.le_of_ble_eq_true rfl⟩)) hM hX.2.1.2.2.2.2.2.1.1.1 hX.2.1.2.2.2.2.2.1.1.2 rfl rfl hM hS rfl rfl rfl hl.1 (Nat.le_of_ble_eq_true rfl) dX3_lists_31 (by rw [hR]; exact ⟨Nat.zero_le _, Nat.zero_le _⟩) (fun H locs hM hS => ?_)
  skip
  exact mr_lret (v := (fX1_countLists I J (p + 44) u0 j).1) C0 hr hlk hQ hS rfl hM (Nat.le_refl _) (Nat.le_refl _) dX3_lists_34
def fX3_relation_t (I : hm_I) (p e0 a0 b0 : Nat) : Int32 :=
  if fX1_precedes_t I (p + 48 + 3 * e0) a0 b0 = true then if fX1_hasEdge_t I (p + 48 + 3 * e0) a0 b0 = true then nI 1 else nI 2 else if fX1_precedes_t I (p + 48 + 3 * e0) b0 a0 = true then if fX1_hasEdge_t I (p + 48 + 3 * e0) b0 a0 = true then nI 3 else nI 4 else nI 0
set_option maxHeartbeats 4000000 in
set_option maxRecDepth 100000 in
theorem ctX3_relation_t {l : Launch} {D : va_G} {T : Nat → ClassId} {L : List Nat} {A : Nat → Prop} {Sh : hm_S} {I : hm_I} {J : hm_J} {x p f h m k j : Nat} {hs im : Nat → Nat} (hX : IsX L Sh x p f h m k j hs im) (hA : ApX x p f h m k j hs im) {c : Nat → Nat} {e : Nat → Nat → Nat} {ec lc : Nat} (hW : WfS I p c e ec lc) {e0 : Nat} (he0 : e0 < ec) (ho : fX3_isEpochOrDraft ec (nI e0) = true) {a0 b0 : Nat} (ha0 : a0 < 8) (hb0 : b0 < 8) (hab : a0 ≠ b0) :
    Ct l yX3_relation wsX3_relation { frames := 2, cells := 0, slots := 0, locals := 43 } 0 0 D T A [.ref x, .int (nI e0), .int (nI a0), .int (nI b0)] (hm D T L A Sh I J) (some (.int (fX3_relation_t I p e0 a0 b0))) (hm D T L A Sh I J) := by
  refine Ct.ofW (cc := cX3_relation) (maxL := 5) (ret := (some .int)) (by decide) rfl (Nat.le_of_ble_eq_true rfl) ?_
  intro p_ e_ s_ m_ args_ below_ meth_ c_ ls R Qq hR hQ C0 hr hlk hname hM hl
  have hx := C0.1.1
  have hb := C0.1.2.1
  have hS : va_S A s_.heap s_.heap [] := va_S.rf
  have hl : lv_has ls 5 [(0, .ref x), (1, .int (nI e0)), (2, .int (nI a0)), (3, .int (nI b0))] := hl
  have hec10 := hW.2.2.2.2.1
  have hec1 := hW.2.2.2.1
  refine lv_aload_n hx hb dX3_relation_0 rfl (lv_at hl 0 rfl) ?_
  refine lv_iload_n hx hb dX3_relation_1 rfl (lv_at hl 1 rfl) ?_
  refine mr_callV (As := [.int (nI e0)]) C0 (ctX3_isEpochOrDraft (I := I) (J := J) (e0 := (nI e0)) hX hA hW) (cwV 1 C0.1.2.2.2.2 gX3_relation_X3_isEpochOrDraft rfl rfl rfl (by decide +kernel) (by rw [hR]; exact ⟨Nat.le_of_ble_eq_true rfl, Nat.le_of_ble_eq_true rfl⟩)) hM hX.1.1 hX.1.2 rfl rfl hM hS rfl rfl rfl hl.1 (Nat.le_of_ble_eq_true rfl) dX3_relation_2 (by rw [hR]; exact ⟨Nat.zero_le _, Nat.zero_le _⟩) (fun H locs hM hS => ?_)
  refine mr_eqB (tgt := 16) C0 dX3_relation_5 (by decide) (fun c1 => absurd c1 (by rw [ho]; decide)) (fun c1 => ?_)
  refine lv_iload_n hx hb dX3_relation_8 rfl (lv_at hl 2 rfl) ?_
  refine lv_iload_n hx hb dX3_relation_9 rfl (lv_at hl 3 rfl) ?_
  refine mr_callS (As := [.int (nI a0), .int (nI b0)]) C0 (ctX3_areTwoStreams_t (I := I) (J := J) (a0 := a0) (b0 := b0) (by omega) (by omega) (by omega)) (va_cwS 2 C0.1.2.2.2.2 gX3_relation_X3_areTwoStreams rfl rfl rfl (by decide +kernel) (by rw [hR]; exact ⟨Nat.le_of_ble_eq_true rfl, Nat.le_of_ble_eq_true rfl⟩)) hM hS rfl rfl rfl hl.1 (Nat.le_of_ble_eq_true rfl) dX3_relation_10 (by rw [hR]; exact ⟨Nat.zero_le _, Nat.zero_le _⟩) (fun H locs hM hS => ?_)
  refine mr_neB (tgt := 18) C0 dX3_relation_13 (by decide) (fun _ => ?_) (fun c2 => absurd c2 (by decide))
  refine lv_aload_n hx hb dX3_relation_18 rfl (lv_at hl 0 rfl) ?_
  refine mr_getr (r := p) (TT := TX3) (N := 7) C0 uX3_relation_X3 hM hX.1.1 hX.1.2 rfl 0 (by decide) rfl kX3_relation_f10 rfl dX3_relation_19 ?_
  refine lv_iload_n hx hb dX3_relation_22 rfl (lv_at hl 1 rfl) ?_
  refine mr_callV (As := [.int (nI e0)]) C0 (ctX2_orderOf_t (I := I) (J := J) (q := p) (e0 := e0) hX.2.1 hW (by omega)) (cwV 1 C0.1.2.2.2.2 gX3_relation_X2_orderOf rfl rfl rfl (by decide +kernel) (by rw [hR]; exact ⟨Nat.le_of_ble_eq_true rfl, Nat.le_of_ble_eq_true rfl⟩)) hM hX.2.1.1.1 hX.2.1.1.2 rfl rfl hM hS rfl rfl rfl hl.1 (Nat.le_of_ble_eq_true rfl) dX3_relation_23 (by rw [hR]; exact ⟨Nat.zero_le _, Nat.zero_le _⟩) (fun H locs hM hS => ?_)
  refine lv_astore (lv' := [(4, .ref (p + 48 + 3 * e0)), (0, .ref x), (1, .int (nI e0)), (2, .int (nI a0)), (3, .int (nI b0))]) hx hb dX3_relation_26 hl (by decide) rfl (fun ls hl => ?_)
  refine lv_aload hx hb dX3_relation_28 (lv_at hl 0 rfl) ?_
  refine lv_iload_n hx hb dX3_relation_30 rfl (lv_at hl 3 rfl) ?_
  refine lv_iload_n hx hb dX3_relation_31 rfl (lv_at hl 4 rfl) ?_
  refine mr_callV (As := [.int (nI a0), .int (nI b0)]) C0 (ctX1_precedes_t (I := I) (J := J) (a := (p + 48 + 3 * e0)) (x := a0) (y := b0) (hX.2.1.2.2.2.2.2.2.2.1 _ (by omega)) (by omega)) (cwV 2 C0.1.2.2.2.2 gX3_relation_X1_precedes rfl rfl rfl (by decide +kernel) (by rw [hR]; exact ⟨Nat.le_of_ble_eq_true rfl, Nat.le_of_ble_eq_true rfl⟩)) hM (hX.2.1.2.2.2.2.2.2.2.1 _ (by omega)).1.1 (hX.2.1.2.2.2.2.2.2.2.1 _ (by omega)).1.2 rfl rfl hM hS rfl rfl rfl hl.1 (Nat.le_of_ble_eq_true rfl) dX3_relation_32 (by rw [hR]; exact ⟨Nat.zero_le _, Nat.zero_le _⟩) (fun H locs hM hS => ?_)
  refine mr_eqB (tgt := 54) C0 dX3_relation_35 (by decide) (fun c3 => ?_) (fun c3 => ?_)
  · skip
    refine lv_aload hx hb dX3_relation_54 (lv_at hl 0 rfl) ?_
    refine lv_iload_n hx hb dX3_relation_56 rfl (lv_at hl 4 rfl) ?_
    refine lv_iload_n hx hb dX3_relation_57 rfl (lv_at hl 3 rfl) ?_
    refine mr_callV (As := [.int (nI b0), .int (nI a0)]) C0 (ctX1_precedes_t (I := I) (J := J) (a := (p + 48 + 3 * e0)) (x := b0) (y := a0) (hX.2.1.2.2.2.2.2.2.2.1 _ (by omega)) (by omega)) (cwV 2 C0.1.2.2.2.2 gX3_relation_X1_precedes rfl rfl rfl (by decide +kernel) (by rw [hR]; exact ⟨Nat.le_of_ble_eq_true rfl, Nat.le_of_ble_eq_true rfl⟩)) hM (hX.2.1.2.2.2.2.2.2.2.1 _ (by omega)).1.1 (hX.2.1.2.2.2.2.2.2.2.1 _ (by omega)).1.2 rfl rfl hM hS rfl rfl rfl hl.1 (Nat.le_of_ble_eq_true rfl) dX3_relation_58 (by rw [hR]; exact ⟨Nat.zero_le _, Nat.zero_le _⟩) (fun H locs hM hS => ?_)
    refine mr_eqB (tgt := 80) C0 dX3_relation_61 (by decide) (fun c4 => ?_) (fun c4 => ?_)
    · skip
      refine lv_iconst (v := nI 0) hx hb dX3_relation_80 (by decide) ?_
      have eF : nI 0 = fX3_relation_t I p e0 a0 b0 := by unfold fX3_relation_t; rw [if_neg (Bool.eq_false_iff.mp c3), if_neg (Bool.eq_false_iff.mp c4)]
      exact mr_iret (v := nI 0) C0 hr hlk hQ hS (by rw [← eF]) hM (Nat.le_refl _) (Nat.le_refl _) dX3_relation_81
    · skip
      refine lv_aload hx hb dX3_relation_64 (lv_at hl 0 rfl) ?_
      refine lv_iload_n hx hb dX3_relation_66 rfl (lv_at hl 4 rfl) ?_
      refine lv_iload_n hx hb dX3_relation_67 rfl (lv_at hl 3 rfl) ?_
      refine mr_callV (As := [.int (nI b0), .int (nI a0)]) C0 (ctX1_hasEdge_t (I := I) (J := J) (a := (p + 48 + 3 * e0)) (x := b0) (y := a0) (hX.2.1.2.2.2.2.2.2.2.1 _ (by omega)) (by omega)) (cwV 2 C0.1.2.2.2.2 gX3_relation_X1_hasEdge rfl rfl rfl (by decide +kernel) (by rw [hR]; exact ⟨Nat.le_of_ble_eq_true rfl, Nat.le_of_ble_eq_true rfl⟩)) hM (hX.2.1.2.2.2.2.2.2.2.1 _ (by omega)).1.1 (hX.2.1.2.2.2.2.2.2.2.1 _ (by omega)).1.2 rfl rfl hM hS rfl rfl rfl hl.1 (Nat.le_of_ble_eq_true rfl) dX3_relation_68 (by rw [hR]; exact ⟨Nat.zero_le _, Nat.zero_le _⟩) (fun H locs hM hS => ?_)
      refine mr_eqB (tgt := 78) C0 dX3_relation_71 (by decide) (fun c5 => ?_) (fun c5 => ?_)
      · skip
        refine lv_iconst (v := nI 4) hx hb dX3_relation_78 (by decide) ?_
        have eF : nI 4 = fX3_relation_t I p e0 a0 b0 := by unfold fX3_relation_t; rw [if_neg (Bool.eq_false_iff.mp c3), if_pos c4, if_neg (Bool.eq_false_iff.mp c5)]
        exact mr_iret (v := nI 4) C0 hr hlk hQ hS (by rw [← eF]) hM (Nat.le_refl _) (Nat.le_refl _) dX3_relation_79
      · skip
        refine lv_iconst (v := nI 3) hx hb dX3_relation_74 (by decide) ?_
        refine lv_goto (tgt := 79) hx hb dX3_relation_75 (by decide) ?_
        have eF : nI 3 = fX3_relation_t I p e0 a0 b0 := by unfold fX3_relation_t; rw [if_neg (Bool.eq_false_iff.mp c3), if_pos c4, if_pos c5]
        exact mr_iret (v := nI 3) C0 hr hlk hQ hS (by rw [← eF]) hM (Nat.le_refl _) (Nat.le_refl _) dX3_relation_79
  · skip
    refine lv_aload hx hb dX3_relation_38 (lv_at hl 0 rfl) ?_
    refine lv_iload_n hx hb dX3_relation_40 rfl (lv_at hl 3 rfl) ?_
    refine lv_iload_n hx hb dX3_relation_41 rfl (lv_at hl 4 rfl) ?_
    refine mr_callV (As := [.int (nI a0), .int (nI b0)]) C0 (ctX1_hasEdge_t (I := I) (J := J) (a := (p + 48 + 3 * e0)) (x := a0) (y := b0) (hX.2.1.2.2.2.2.2.2.2.1 _ (by omega)) (by omega)) (cwV 2 C0.1.2.2.2.2 gX3_relation_X1_hasEdge rfl rfl rfl (by decide +kernel) (by rw [hR]; exact ⟨Nat.le_of_ble_eq_true rfl, Nat.le_of_ble_eq_true rfl⟩)) hM (hX.2.1.2.2.2.2.2.2.2.1 _ (by omega)).1.1 (hX.2.1.2.2.2.2.2.2.2.1 _ (by omega)).1.2 rfl rfl hM hS rfl rfl rfl hl.1 (Nat.le_of_ble_eq_true rfl) dX3_relation_42 (by rw [hR]; exact ⟨Nat.zero_le _, Nat.zero_le _⟩) (fun H locs hM hS => ?_)
    refine mr_eqB (tgt := 52) C0 dX3_relation_45 (by decide) (fun c6 => ?_) (fun c6 => ?_)
    · skip
      refine lv_iconst (v := nI 2) hx hb dX3_relation_52 (by decide) ?_
      have eF : nI 2 = fX3_relation_t I p e0 a0 b0 := by unfold fX3_relation_t; rw [if_pos c3, if_neg (Bool.eq_false_iff.mp c6)]
      exact mr_iret (v := nI 2) C0 hr hlk hQ hS (by rw [← eF]) hM (Nat.le_refl _) (Nat.le_refl _) dX3_relation_53
    · skip
      refine lv_iconst (v := nI 1) hx hb dX3_relation_48 (by decide) ?_
      refine lv_goto (tgt := 53) hx hb dX3_relation_49 (by decide) ?_
      have eF : nI 1 = fX3_relation_t I p e0 a0 b0 := by unfold fX3_relation_t; rw [if_pos c3, if_pos c6]
      exact mr_iret (v := nI 1) C0 hr hlk hQ hS (by rw [← eF]) hM (Nat.le_refl _) (Nat.le_refl _) dX3_relation_53
set_option maxHeartbeats 4000000 in
set_option maxRecDepth 100000 in
theorem ctX3_order_t0 {l : Launch} {D : va_G} {T : Nat → ClassId} {L : List Nat} {A : Nat → Prop} {Sh : hm_S} {I : hm_I} {J : hm_J} {x p f h m k j : Nat} {hs im : Nat → Nat} (hX : IsX L Sh x p f h m k j hs im) (hA : ApX x p f h m k j hs im) {c : Nat → Nat} {e : Nat → Nat → Nat} {ec lc : Nat} (hW : WfS I p c e ec lc) {e0 : Nat} (he0 : e0 < ec) (ho : fX3_isEpochOrDraft ec (nI e0) = true) :
    Ct l yX3_order wsX3_order { frames := 2, cells := 0, slots := 0, locals := 44 } 0 0 D T A [.ref x, .int (nI e0), .int (nI 0)] (hm D T L A Sh I J) (some (.int (fX1_pairsAmong I (p + 48 + 3 * e0) (I p 0)))) (hm D T L A Sh I J) := by
  refine Ct.ofW (cc := cX3_order) (maxL := 4) (ret := (some .int)) (by decide) rfl (Nat.le_of_ble_eq_true rfl) ?_
  intro p_ e_ s_ m_ args_ below_ meth_ c_ ls R Qq hR hQ C0 hr hlk hname hM hl
  have hx := C0.1.1
  have hb := C0.1.2.1
  have hS : va_S A s_.heap s_.heap [] := va_S.rf
  have hl : lv_has ls 4 [(0, .ref x), (1, .int (nI e0)), (2, .int (nI 0))] := hl
  have hec10 := hW.2.2.2.2.1
  have hec1 := hW.2.2.2.1
  refine lv_aload_n hx hb dX3_order_0 rfl (lv_at hl 0 rfl) ?_
  refine lv_iload_n hx hb dX3_order_1 rfl (lv_at hl 1 rfl) ?_
  refine mr_callV (As := [.int (nI e0)]) C0 (ctX3_isEpochOrDraft (I := I) (J := J) (e0 := (nI e0)) hX hA hW) (cwV 1 C0.1.2.2.2.2 gX3_order_X3_isEpochOrDraft rfl rfl rfl (by decide +kernel) (by rw [hR]; exact ⟨Nat.le_of_ble_eq_true rfl, Nat.le_of_ble_eq_true rfl⟩)) hM hX.1.1 hX.1.2 rfl rfl hM hS rfl rfl rfl hl.1 (Nat.le_of_ble_eq_true rfl) dX3_order_2 (by rw [hR]; exact ⟨Nat.zero_le _, Nat.zero_le _⟩) (fun H locs hM hS => ?_)
  refine mr_eqB (tgt := 17) C0 dX3_order_5 (by decide) (fun c1 => absurd c1 (by rw [ho]; decide)) (fun c1 => ?_)
  refine lv_iload_n hx hb dX3_order_8 rfl (lv_at hl 2 rfl) ?_
  refine lv_iconst (v := nI 0) hx hb dX3_order_9 (by decide) ?_
  refine lv_iconst (v := nI 4) hx hb dX3_order_10 (by decide) ?_
  refine mr_callS (As := [.int (nI 0), .int (nI 0), .int (nI 4)]) C0 (ctX3_isWithin (I := I) (J := J) (v := (nI 0)) (lo := (nI 0)) (up := (nI 4)) ) (va_cwS 3 C0.1.2.2.2.2 gX3_order_X3_isWithin rfl rfl rfl (by decide +kernel) (by rw [hR]; exact ⟨Nat.le_of_ble_eq_true rfl, Nat.le_of_ble_eq_true rfl⟩)) hM hS rfl rfl rfl hl.1 (Nat.le_of_ble_eq_true rfl) dX3_order_11 (by rw [hR]; exact ⟨Nat.zero_le _, Nat.zero_le _⟩) (fun H locs hM hS => ?_)
  refine mr_neB (tgt := 19) C0 dX3_order_14 (by decide) (fun c2 => ?_) (fun c2 => absurd c2 (by decide))
  refine lv_aload_n hx hb dX3_order_19 rfl (lv_at hl 0 rfl) ?_
  refine mr_getr (r := p) (TT := TX3) (N := 7) C0 uX3_order_X3 hM hX.1.1 hX.1.2 rfl 0 (by decide) rfl kX3_order_f10 rfl dX3_order_20 ?_
  refine lv_iload_n hx hb dX3_order_23 rfl (lv_at hl 1 rfl) ?_
  refine mr_callV (As := [.int (nI e0)]) C0 (ctX2_orderOf_t (I := I) (J := J) (q := p) (e0 := e0) hX.2.1 hW (by omega)) (cwV 1 C0.1.2.2.2.2 gX3_order_X2_orderOf rfl rfl rfl (by decide +kernel) (by rw [hR]; exact ⟨Nat.le_of_ble_eq_true rfl, Nat.le_of_ble_eq_true rfl⟩)) hM hX.2.1.1.1 hX.2.1.1.2 rfl rfl hM hS rfl rfl rfl hl.1 (Nat.le_of_ble_eq_true rfl) dX3_order_24 (by rw [hR]; exact ⟨Nat.zero_le _, Nat.zero_le _⟩) (fun H locs hM hS => ?_)
  refine lv_astore_n (lv' := [(3, .ref (p + 48 + 3 * e0)), (0, .ref x), (1, .int (nI e0)), (2, .int (nI 0))]) hx hb dX3_order_27 rfl hl (by decide) rfl (fun ls hl => ?_)
  refine lv_iload_n hx hb dX3_order_28 rfl (lv_at hl 3 rfl) ?_
  refine lv_tableIn (off := 31) (tgt := 60) hx hb dX3_order_29 (by decide) (by decide) (by decide) (by decide) ?_
  refine lv_aload_n hx hb dX3_order_60 rfl (lv_at hl 0 rfl) ?_
  refine lv_aload_n hx hb dX3_order_61 rfl (lv_at hl 1 rfl) ?_
  refine mr_getr (r := p) (TT := TX3) (N := 7) C0 uX3_order_X3 hM hX.1.1 hX.1.2 rfl 0 (by decide) rfl kX3_order_f10 rfl dX3_order_62 ?_
  refine mr_geti (v := I p 0) (TT := TX2) (N := 10) C0 uX3_order_X2 hM hX.2.1.1.1 hX.2.1.1.2 rfl 0 (by decide) rfl rfl kX3_order_f56 rfl dX3_order_65 ?_
  refine mr_callV (As := [.int (I p 0)]) C0 (ctX1_pairsAmong (I := I) (J := J) (a := (p + 48 + 3 * e0)) (u := (I p 0)) (hX.2.1.2.2.2.2.2.2.2.1 _ (by omega))) (cwV 1 C0.1.2.2.2.2 gX3_order_X1_pairsAmong rfl rfl rfl (by decide +kernel) (by rw [hR]; exact ⟨Nat.le_of_ble_eq_true rfl, Nat.le_of_ble_eq_true rfl⟩)) hM (hX.2.1.2.2.2.2.2.2.2.1 _ (by omega)).1.1 (hX.2.1.2.2.2.2.2.2.2.1 _ (by omega)).1.2 rfl rfl hM hS rfl rfl rfl hl.1 (Nat.le_of_ble_eq_true rfl) dX3_order_68 (by rw [hR]; exact ⟨Nat.zero_le _, Nat.zero_le _⟩) (fun H locs hM hS => ?_)
  skip
  exact mr_iret (v := fX1_pairsAmong I (p + 48 + 3 * e0) (I p 0)) C0 hr hlk hQ hS rfl hM (Nat.le_refl _) (Nat.le_refl _) dX3_order_71
set_option maxHeartbeats 4000000 in
set_option maxRecDepth 100000 in
theorem ctX3_order_t1 {l : Launch} {D : va_G} {T : Nat → ClassId} {L : List Nat} {A : Nat → Prop} {Sh : hm_S} {I : hm_I} {J : hm_J} {x p f h m k j : Nat} {hs im : Nat → Nat} (hX : IsX L Sh x p f h m k j hs im) (hA : ApX x p f h m k j hs im) {c : Nat → Nat} {e : Nat → Nat → Nat} {ec lc : Nat} (hW : WfS I p c e ec lc) {e0 : Nat} (he0 : e0 < ec) (ho : fX3_isEpochOrDraft ec (nI e0) = true) :
    Ct l yX3_order wsX3_order { frames := 3, cells := 0, slots := 0, locals := 67 } 0 0 D T A [.ref x, .int (nI e0), .int (nI 1)] (hm D T L A Sh I J) (some (.int (fX1_longestChainAmong I (p + 48 + 3 * e0) (I p 0)))) (hm D T L A Sh I J) := by
  refine Ct.ofW (cc := cX3_order) (maxL := 4) (ret := (some .int)) (by decide) rfl (Nat.le_of_ble_eq_true rfl) ?_
  intro p_ e_ s_ m_ args_ below_ meth_ c_ ls R Qq hR hQ C0 hr hlk hname hM hl
  have hx := C0.1.1
  have hb := C0.1.2.1
  have hS : va_S A s_.heap s_.heap [] := va_S.rf
  have hl : lv_has ls 4 [(0, .ref x), (1, .int (nI e0)), (2, .int (nI 1))] := hl
  have hec10 := hW.2.2.2.2.1
  have hec1 := hW.2.2.2.1
  refine lv_aload_n hx hb dX3_order_0 rfl (lv_at hl 0 rfl) ?_
  refine lv_iload_n hx hb dX3_order_1 rfl (lv_at hl 1 rfl) ?_
  refine mr_callV (As := [.int (nI e0)]) C0 (ctX3_isEpochOrDraft (I := I) (J := J) (e0 := (nI e0)) hX hA hW) (cwV 1 C0.1.2.2.2.2 gX3_order_X3_isEpochOrDraft rfl rfl rfl (by decide +kernel) (by rw [hR]; exact ⟨Nat.le_of_ble_eq_true rfl, Nat.le_of_ble_eq_true rfl⟩)) hM hX.1.1 hX.1.2 rfl rfl hM hS rfl rfl rfl hl.1 (Nat.le_of_ble_eq_true rfl) dX3_order_2 (by rw [hR]; exact ⟨Nat.zero_le _, Nat.zero_le _⟩) (fun H locs hM hS => ?_)
  refine mr_eqB (tgt := 17) C0 dX3_order_5 (by decide) (fun c1 => absurd c1 (by rw [ho]; decide)) (fun c1 => ?_)
  refine lv_iload_n hx hb dX3_order_8 rfl (lv_at hl 2 rfl) ?_
  refine lv_iconst (v := nI 0) hx hb dX3_order_9 (by decide) ?_
  refine lv_iconst (v := nI 4) hx hb dX3_order_10 (by decide) ?_
  refine mr_callS (As := [.int (nI 1), .int (nI 0), .int (nI 4)]) C0 (ctX3_isWithin (I := I) (J := J) (v := (nI 1)) (lo := (nI 0)) (up := (nI 4)) ) (va_cwS 3 C0.1.2.2.2.2 gX3_order_X3_isWithin rfl rfl rfl (by decide +kernel) (by rw [hR]; exact ⟨Nat.le_of_ble_eq_true rfl, Nat.le_of_ble_eq_true rfl⟩)) hM hS rfl rfl rfl hl.1 (Nat.le_of_ble_eq_true rfl) dX3_order_11 (by rw [hR]; exact ⟨Nat.zero_le _, Nat.zero_le _⟩) (fun H locs hM hS => ?_)
  refine mr_neB (tgt := 19) C0 dX3_order_14 (by decide) (fun c2 => ?_) (fun c2 => absurd c2 (by decide))
  refine lv_aload_n hx hb dX3_order_19 rfl (lv_at hl 0 rfl) ?_
  refine mr_getr (r := p) (TT := TX3) (N := 7) C0 uX3_order_X3 hM hX.1.1 hX.1.2 rfl 0 (by decide) rfl kX3_order_f10 rfl dX3_order_20 ?_
  refine lv_iload_n hx hb dX3_order_23 rfl (lv_at hl 1 rfl) ?_
  refine mr_callV (As := [.int (nI e0)]) C0 (ctX2_orderOf_t (I := I) (J := J) (q := p) (e0 := e0) hX.2.1 hW (by omega)) (cwV 1 C0.1.2.2.2.2 gX3_order_X2_orderOf rfl rfl rfl (by decide +kernel) (by rw [hR]; exact ⟨Nat.le_of_ble_eq_true rfl, Nat.le_of_ble_eq_true rfl⟩)) hM hX.2.1.1.1 hX.2.1.1.2 rfl rfl hM hS rfl rfl rfl hl.1 (Nat.le_of_ble_eq_true rfl) dX3_order_24 (by rw [hR]; exact ⟨Nat.zero_le _, Nat.zero_le _⟩) (fun H locs hM hS => ?_)
  refine lv_astore_n (lv' := [(3, .ref (p + 48 + 3 * e0)), (0, .ref x), (1, .int (nI e0)), (2, .int (nI 1))]) hx hb dX3_order_27 rfl hl (by decide) rfl (fun ls hl => ?_)
  refine lv_iload_n hx hb dX3_order_28 rfl (lv_at hl 3 rfl) ?_
  refine lv_tableIn (off := 43) (tgt := 72) hx hb dX3_order_29 (by decide) (by decide) (by decide) (by decide) ?_
  refine lv_aload_n hx hb dX3_order_72 rfl (lv_at hl 0 rfl) ?_
  refine lv_aload_n hx hb dX3_order_73 rfl (lv_at hl 1 rfl) ?_
  refine mr_getr (r := p) (TT := TX3) (N := 7) C0 uX3_order_X3 hM hX.1.1 hX.1.2 rfl 0 (by decide) rfl kX3_order_f10 rfl dX3_order_74 ?_
  refine mr_geti (v := I p 0) (TT := TX2) (N := 10) C0 uX3_order_X2 hM hX.2.1.1.1 hX.2.1.1.2 rfl 0 (by decide) rfl rfl kX3_order_f56 rfl dX3_order_77 ?_
  refine mr_callV (As := [.int (I p 0)]) C0 (ctX1_longestChainAmong (I := I) (J := J) (a := (p + 48 + 3 * e0)) (u := (I p 0)) (hX.2.1.2.2.2.2.2.2.2.1 _ (by omega))) (cwV 1 C0.1.2.2.2.2 gX3_order_X1_longestChainAmong rfl rfl rfl (by decide +kernel) (by rw [hR]; exact ⟨Nat.le_of_ble_eq_true rfl, Nat.le_of_ble_eq_true rfl⟩)) hM (hX.2.1.2.2.2.2.2.2.2.1 _ (by omega)).1.1 (hX.2.1.2.2.2.2.2.2.2.1 _ (by omega)).1.2 rfl rfl hM hS rfl rfl rfl hl.1 (Nat.le_of_ble_eq_true rfl) dX3_order_80 (by rw [hR]; exact ⟨Nat.zero_le _, Nat.zero_le _⟩) (fun H locs hM hS => ?_)
  skip
  exact mr_iret (v := fX1_longestChainAmong I (p + 48 + 3 * e0) (I p 0)) C0 hr hlk hQ hS rfl hM (Nat.le_refl _) (Nat.le_refl _) dX3_order_83
set_option maxHeartbeats 4000000 in
set_option maxRecDepth 100000 in
theorem ctX3_order_t2 {l : Launch} {D : va_G} {T : Nat → ClassId} {L : List Nat} {A : Nat → Prop} {Sh : hm_S} {I : hm_I} {J : hm_J} {x p f h m k j : Nat} {hs im : Nat → Nat} (hX : IsX L Sh x p f h m k j hs im) (hA : ApX x p f h m k j hs im) {c : Nat → Nat} {e : Nat → Nat → Nat} {ec lc : Nat} (hW : WfS I p c e ec lc) {e0 : Nat} (he0 : e0 < ec) (ho : fX3_isEpochOrDraft ec (nI e0) = true) :
    Ct l yX3_order wsX3_order { frames := 3, cells := 0, slots := 0, locals := 68 } 0 0 D T A [.ref x, .int (nI e0), .int (nI 2)] (hm D T L A Sh I J) (some (.int (fX1_widestChoiceAmong I (p + 48 + 3 * e0) (I p 0)))) (hm D T L A Sh I J) := by
  refine Ct.ofW (cc := cX3_order) (maxL := 4) (ret := (some .int)) (by decide) rfl (Nat.le_of_ble_eq_true rfl) ?_
  intro p_ e_ s_ m_ args_ below_ meth_ c_ ls R Qq hR hQ C0 hr hlk hname hM hl
  have hx := C0.1.1
  have hb := C0.1.2.1
  have hS : va_S A s_.heap s_.heap [] := va_S.rf
  have hl : lv_has ls 4 [(0, .ref x), (1, .int (nI e0)), (2, .int (nI 2))] := hl
  have hec10 := hW.2.2.2.2.1
  have hec1 := hW.2.2.2.1
  refine lv_aload_n hx hb dX3_order_0 rfl (lv_at hl 0 rfl) ?_
  refine lv_iload_n hx hb dX3_order_1 rfl (lv_at hl 1 rfl) ?_
  refine mr_callV (As := [.int (nI e0)]) C0 (ctX3_isEpochOrDraft (I := I) (J := J) (e0 := (nI e0)) hX hA hW) (cwV 1 C0.1.2.2.2.2 gX3_order_X3_isEpochOrDraft rfl rfl rfl (by decide +kernel) (by rw [hR]; exact ⟨Nat.le_of_ble_eq_true rfl, Nat.le_of_ble_eq_true rfl⟩)) hM hX.1.1 hX.1.2 rfl rfl hM hS rfl rfl rfl hl.1 (Nat.le_of_ble_eq_true rfl) dX3_order_2 (by rw [hR]; exact ⟨Nat.zero_le _, Nat.zero_le _⟩) (fun H locs hM hS => ?_)
  refine mr_eqB (tgt := 17) C0 dX3_order_5 (by decide) (fun c1 => absurd c1 (by rw [ho]; decide)) (fun c1 => ?_)
  refine lv_iload_n hx hb dX3_order_8 rfl (lv_at hl 2 rfl) ?_
  refine lv_iconst (v := nI 0) hx hb dX3_order_9 (by decide) ?_
  refine lv_iconst (v := nI 4) hx hb dX3_order_10 (by decide) ?_
  refine mr_callS (As := [.int (nI 2), .int (nI 0), .int (nI 4)]) C0 (ctX3_isWithin (I := I) (J := J) (v := (nI 2)) (lo := (nI 0)) (up := (nI 4)) ) (va_cwS 3 C0.1.2.2.2.2 gX3_order_X3_isWithin rfl rfl rfl (by decide +kernel) (by rw [hR]; exact ⟨Nat.le_of_ble_eq_true rfl, Nat.le_of_ble_eq_true rfl⟩)) hM hS rfl rfl rfl hl.1 (Nat.le_of_ble_eq_true rfl) dX3_order_11 (by rw [hR]; exact ⟨Nat.zero_le _, Nat.zero_le _⟩) (fun H locs hM hS => ?_)
  refine mr_neB (tgt := 19) C0 dX3_order_14 (by decide) (fun c2 => ?_) (fun c2 => absurd c2 (by decide))
  refine lv_aload_n hx hb dX3_order_19 rfl (lv_at hl 0 rfl) ?_
  refine mr_getr (r := p) (TT := TX3) (N := 7) C0 uX3_order_X3 hM hX.1.1 hX.1.2 rfl 0 (by decide) rfl kX3_order_f10 rfl dX3_order_20 ?_
  refine lv_iload_n hx hb dX3_order_23 rfl (lv_at hl 1 rfl) ?_
  refine mr_callV (As := [.int (nI e0)]) C0 (ctX2_orderOf_t (I := I) (J := J) (q := p) (e0 := e0) hX.2.1 hW (by omega)) (cwV 1 C0.1.2.2.2.2 gX3_order_X2_orderOf rfl rfl rfl (by decide +kernel) (by rw [hR]; exact ⟨Nat.le_of_ble_eq_true rfl, Nat.le_of_ble_eq_true rfl⟩)) hM hX.2.1.1.1 hX.2.1.1.2 rfl rfl hM hS rfl rfl rfl hl.1 (Nat.le_of_ble_eq_true rfl) dX3_order_24 (by rw [hR]; exact ⟨Nat.zero_le _, Nat.zero_le _⟩) (fun H locs hM hS => ?_)
  refine lv_astore_n (lv' := [(3, .ref (p + 48 + 3 * e0)), (0, .ref x), (1, .int (nI e0)), (2, .int (nI 2))]) hx hb dX3_order_27 rfl hl (by decide) rfl (fun ls hl => ?_)
  refine lv_iload_n hx hb dX3_order_28 rfl (lv_at hl 3 rfl) ?_
  refine lv_tableIn (off := 55) (tgt := 84) hx hb dX3_order_29 (by decide) (by decide) (by decide) (by decide) ?_
  refine lv_aload_n hx hb dX3_order_84 rfl (lv_at hl 0 rfl) ?_
  refine lv_aload_n hx hb dX3_order_85 rfl (lv_at hl 1 rfl) ?_
  refine mr_getr (r := p) (TT := TX3) (N := 7) C0 uX3_order_X3 hM hX.1.1 hX.1.2 rfl 0 (by decide) rfl kX3_order_f10 rfl dX3_order_86 ?_
  refine mr_geti (v := I p 0) (TT := TX2) (N := 10) C0 uX3_order_X2 hM hX.2.1.1.1 hX.2.1.1.2 rfl 0 (by decide) rfl rfl kX3_order_f56 rfl dX3_order_89 ?_
  refine mr_callV (As := [.int (I p 0)]) C0 (ctX1_widestChoiceAmong (I := I) (J := J) (a := (p + 48 + 3 * e0)) (u := (I p 0)) (hX.2.1.2.2.2.2.2.2.2.1 _ (by omega))) (cwV 1 C0.1.2.2.2.2 gX3_order_X1_widestChoiceAmong rfl rfl rfl (by decide +kernel) (by rw [hR]; exact ⟨Nat.le_of_ble_eq_true rfl, Nat.le_of_ble_eq_true rfl⟩)) hM (hX.2.1.2.2.2.2.2.2.2.1 _ (by omega)).1.1 (hX.2.1.2.2.2.2.2.2.2.1 _ (by omega)).1.2 rfl rfl hM hS rfl rfl rfl hl.1 (Nat.le_of_ble_eq_true rfl) dX3_order_92 (by rw [hR]; exact ⟨Nat.zero_le _, Nat.zero_le _⟩) (fun H locs hM hS => ?_)
  skip
  exact mr_iret (v := fX1_widestChoiceAmong I (p + 48 + 3 * e0) (I p 0)) C0 hr hlk hQ hS rfl hM (Nat.le_refl _) (Nat.le_refl _) dX3_order_95
set_option maxHeartbeats 4000000 in
set_option maxRecDepth 100000 in
theorem ctX3_order_t3 {l : Launch} {D : va_G} {T : Nat → ClassId} {L : List Nat} {A : Nat → Prop} {Sh : hm_S} {I : hm_I} {J : hm_J} {x p f h m k j : Nat} {hs im : Nat → Nat} (hX : IsX L Sh x p f h m k j hs im) (hA : ApX x p f h m k j hs im) {c : Nat → Nat} {e : Nat → Nat → Nat} {ec lc : Nat} (hW : WfS I p c e ec lc) {e0 : Nat} (he0 : e0 < ec) (ho : fX3_isEpochOrDraft ec (nI e0) = true) :
    Ct l yX3_order wsX3_order { frames := 2, cells := 0, slots := 0, locals := 44 } 0 0 D T A [.ref x, .int (nI e0), .int (nI 3)] (hm D T L A Sh I J) (some (.int (fJ6_bitCount_0f7a4 (fX1_firstOf I (p + 48 + 3 * e0) (I p 0))))) (hm D T L A Sh I J) := by
  refine Ct.ofW (cc := cX3_order) (maxL := 4) (ret := (some .int)) (by decide) rfl (Nat.le_of_ble_eq_true rfl) ?_
  intro p_ e_ s_ m_ args_ below_ meth_ c_ ls R Qq hR hQ C0 hr hlk hname hM hl
  have hx := C0.1.1
  have hb := C0.1.2.1
  have hS : va_S A s_.heap s_.heap [] := va_S.rf
  have hl : lv_has ls 4 [(0, .ref x), (1, .int (nI e0)), (2, .int (nI 3))] := hl
  have hec10 := hW.2.2.2.2.1
  have hec1 := hW.2.2.2.1
  refine lv_aload_n hx hb dX3_order_0 rfl (lv_at hl 0 rfl) ?_
  refine lv_iload_n hx hb dX3_order_1 rfl (lv_at hl 1 rfl) ?_
  refine mr_callV (As := [.int (nI e0)]) C0 (ctX3_isEpochOrDraft (I := I) (J := J) (e0 := (nI e0)) hX hA hW) (cwV 1 C0.1.2.2.2.2 gX3_order_X3_isEpochOrDraft rfl rfl rfl (by decide +kernel) (by rw [hR]; exact ⟨Nat.le_of_ble_eq_true rfl, Nat.le_of_ble_eq_true rfl⟩)) hM hX.1.1 hX.1.2 rfl rfl hM hS rfl rfl rfl hl.1 (Nat.le_of_ble_eq_true rfl) dX3_order_2 (by rw [hR]; exact ⟨Nat.zero_le _, Nat.zero_le _⟩) (fun H locs hM hS => ?_)
  refine mr_eqB (tgt := 17) C0 dX3_order_5 (by decide) (fun c1 => absurd c1 (by rw [ho]; decide)) (fun c1 => ?_)
  refine lv_iload_n hx hb dX3_order_8 rfl (lv_at hl 2 rfl) ?_
  refine lv_iconst (v := nI 0) hx hb dX3_order_9 (by decide) ?_
  refine lv_iconst (v := nI 4) hx hb dX3_order_10 (by decide) ?_
  refine mr_callS (As := [.int (nI 3), .int (nI 0), .int (nI 4)]) C0 (ctX3_isWithin (I := I) (J := J) (v := (nI 3)) (lo := (nI 0)) (up := (nI 4)) ) (va_cwS 3 C0.1.2.2.2.2 gX3_order_X3_isWithin rfl rfl rfl (by decide +kernel) (by rw [hR]; exact ⟨Nat.le_of_ble_eq_true rfl, Nat.le_of_ble_eq_true rfl⟩)) hM hS rfl rfl rfl hl.1 (Nat.le_of_ble_eq_true rfl) dX3_order_11 (by rw [hR]; exact ⟨Nat.zero_le _, Nat.zero_le _⟩) (fun H locs hM hS => ?_)
  refine mr_neB (tgt := 19) C0 dX3_order_14 (by decide) (fun c2 => ?_) (fun c2 => absurd c2 (by decide))
  refine lv_aload_n hx hb dX3_order_19 rfl (lv_at hl 0 rfl) ?_
  refine mr_getr (r := p) (TT := TX3) (N := 7) C0 uX3_order_X3 hM hX.1.1 hX.1.2 rfl 0 (by decide) rfl kX3_order_f10 rfl dX3_order_20 ?_
  refine lv_iload_n hx hb dX3_order_23 rfl (lv_at hl 1 rfl) ?_
  refine mr_callV (As := [.int (nI e0)]) C0 (ctX2_orderOf_t (I := I) (J := J) (q := p) (e0 := e0) hX.2.1 hW (by omega)) (cwV 1 C0.1.2.2.2.2 gX3_order_X2_orderOf rfl rfl rfl (by decide +kernel) (by rw [hR]; exact ⟨Nat.le_of_ble_eq_true rfl, Nat.le_of_ble_eq_true rfl⟩)) hM hX.2.1.1.1 hX.2.1.1.2 rfl rfl hM hS rfl rfl rfl hl.1 (Nat.le_of_ble_eq_true rfl) dX3_order_24 (by rw [hR]; exact ⟨Nat.zero_le _, Nat.zero_le _⟩) (fun H locs hM hS => ?_)
  refine lv_astore_n (lv' := [(3, .ref (p + 48 + 3 * e0)), (0, .ref x), (1, .int (nI e0)), (2, .int (nI 3))]) hx hb dX3_order_27 rfl hl (by decide) rfl (fun ls hl => ?_)
  refine lv_iload_n hx hb dX3_order_28 rfl (lv_at hl 3 rfl) ?_
  refine lv_tableIn (off := 67) (tgt := 96) hx hb dX3_order_29 (by decide) (by decide) (by decide) (by decide) ?_
  refine lv_aload_n hx hb dX3_order_96 rfl (lv_at hl 0 rfl) ?_
  refine lv_aload_n hx hb dX3_order_97 rfl (lv_at hl 1 rfl) ?_
  refine mr_getr (r := p) (TT := TX3) (N := 7) C0 uX3_order_X3 hM hX.1.1 hX.1.2 rfl 0 (by decide) rfl kX3_order_f10 rfl dX3_order_98 ?_
  refine mr_geti (v := I p 0) (TT := TX2) (N := 10) C0 uX3_order_X2 hM hX.2.1.1.1 hX.2.1.1.2 rfl 0 (by decide) rfl rfl kX3_order_f56 rfl dX3_order_101 ?_
  refine mr_callV (As := [.int (I p 0)]) C0 (ctX1_firstOf (I := I) (J := J) (a := (p + 48 + 3 * e0)) (u := (I p 0)) (hX.2.1.2.2.2.2.2.2.2.1 _ (by omega))) (cwV 1 C0.1.2.2.2.2 gX3_order_X1_firstOf rfl rfl rfl (by decide +kernel) (by rw [hR]; exact ⟨Nat.le_of_ble_eq_true rfl, Nat.le_of_ble_eq_true rfl⟩)) hM (hX.2.1.2.2.2.2.2.2.2.1 _ (by omega)).1.1 (hX.2.1.2.2.2.2.2.2.2.1 _ (by omega)).1.2 rfl rfl hM hS rfl rfl rfl hl.1 (Nat.le_of_ble_eq_true rfl) dX3_order_104 (by rw [hR]; exact ⟨Nat.zero_le _, Nat.zero_le _⟩) (fun H locs hM hS => ?_)
  refine mr_callS (As := [.int (fX1_firstOf I (p + 48 + 3 * e0) (I p 0))]) C0 (ctJ6_bitCount_0f7a4 (I := I) (J := J) (u0 := (fX1_firstOf I (p + 48 + 3 * e0) (I p 0))) ) (va_cwS 1 C0.1.2.2.2.2 gX3_order_J6_bitCount_0f7a4 rfl rfl rfl (by decide +kernel) (by rw [hR]; exact ⟨Nat.le_of_ble_eq_true rfl, Nat.le_of_ble_eq_true rfl⟩)) hM hS rfl rfl rfl hl.1 (Nat.le_of_ble_eq_true rfl) dX3_order_107 (by rw [hR]; exact ⟨Nat.zero_le _, Nat.zero_le _⟩) (fun H locs hM hS => ?_)
  skip
  exact mr_iret (v := fJ6_bitCount_0f7a4 (fX1_firstOf I (p + 48 + 3 * e0) (I p 0))) C0 hr hlk hQ hS rfl hM (Nat.le_refl _) (Nat.le_refl _) dX3_order_110
set_option maxHeartbeats 4000000 in
set_option maxRecDepth 100000 in
theorem ctX3_order_t4 {l : Launch} {D : va_G} {T : Nat → ClassId} {L : List Nat} {A : Nat → Prop} {Sh : hm_S} {I : hm_I} {J : hm_J} {x p f h m k j : Nat} {hs im : Nat → Nat} (hX : IsX L Sh x p f h m k j hs im) (hA : ApX x p f h m k j hs im) {c : Nat → Nat} {e : Nat → Nat → Nat} {ec lc : Nat} (hW : WfS I p c e ec lc) {e0 : Nat} (he0 : e0 < ec) (ho : fX3_isEpochOrDraft ec (nI e0) = true) :
    Ct l yX3_order wsX3_order { frames := 4, cells := 0, slots := 0, locals := 89 } 0 0 D T A [.ref x, .int (nI e0), .int (nI 4)] (hm D T L A Sh I J) (some (.int (fX1_needlessEdges I (p + 48 + 3 * e0)))) (hm D T L A Sh I J) := by
  refine Ct.ofW (cc := cX3_order) (maxL := 4) (ret := (some .int)) (by decide) rfl (Nat.le_of_ble_eq_true rfl) ?_
  intro p_ e_ s_ m_ args_ below_ meth_ c_ ls R Qq hR hQ C0 hr hlk hname hM hl
  have hx := C0.1.1
  have hb := C0.1.2.1
  have hS : va_S A s_.heap s_.heap [] := va_S.rf
  have hl : lv_has ls 4 [(0, .ref x), (1, .int (nI e0)), (2, .int (nI 4))] := hl
  have hec10 := hW.2.2.2.2.1
  have hec1 := hW.2.2.2.1
  refine lv_aload_n hx hb dX3_order_0 rfl (lv_at hl 0 rfl) ?_
  refine lv_iload_n hx hb dX3_order_1 rfl (lv_at hl 1 rfl) ?_
  refine mr_callV (As := [.int (nI e0)]) C0 (ctX3_isEpochOrDraft (I := I) (J := J) (e0 := (nI e0)) hX hA hW) (cwV 1 C0.1.2.2.2.2 gX3_order_X3_isEpochOrDraft rfl rfl rfl (by decide +kernel) (by rw [hR]; exact ⟨Nat.le_of_ble_eq_true rfl, Nat.le_of_ble_eq_true rfl⟩)) hM hX.1.1 hX.1.2 rfl rfl hM hS rfl rfl rfl hl.1 (Nat.le_of_ble_eq_true rfl) dX3_order_2 (by rw [hR]; exact ⟨Nat.zero_le _, Nat.zero_le _⟩) (fun H locs hM hS => ?_)
  refine mr_eqB (tgt := 17) C0 dX3_order_5 (by decide) (fun c1 => absurd c1 (by rw [ho]; decide)) (fun c1 => ?_)
  refine lv_iload_n hx hb dX3_order_8 rfl (lv_at hl 2 rfl) ?_
  refine lv_iconst (v := nI 0) hx hb dX3_order_9 (by decide) ?_
  refine lv_iconst (v := nI 4) hx hb dX3_order_10 (by decide) ?_
  refine mr_callS (As := [.int (nI 4), .int (nI 0), .int (nI 4)]) C0 (ctX3_isWithin (I := I) (J := J) (v := (nI 4)) (lo := (nI 0)) (up := (nI 4)) ) (va_cwS 3 C0.1.2.2.2.2 gX3_order_X3_isWithin rfl rfl rfl (by decide +kernel) (by rw [hR]; exact ⟨Nat.le_of_ble_eq_true rfl, Nat.le_of_ble_eq_true rfl⟩)) hM hS rfl rfl rfl hl.1 (Nat.le_of_ble_eq_true rfl) dX3_order_11 (by rw [hR]; exact ⟨Nat.zero_le _, Nat.zero_le _⟩) (fun H locs hM hS => ?_)
  refine mr_neB (tgt := 19) C0 dX3_order_14 (by decide) (fun c2 => ?_) (fun c2 => absurd c2 (by decide))
  refine lv_aload_n hx hb dX3_order_19 rfl (lv_at hl 0 rfl) ?_
  refine mr_getr (r := p) (TT := TX3) (N := 7) C0 uX3_order_X3 hM hX.1.1 hX.1.2 rfl 0 (by decide) rfl kX3_order_f10 rfl dX3_order_20 ?_
  refine lv_iload_n hx hb dX3_order_23 rfl (lv_at hl 1 rfl) ?_
  refine mr_callV (As := [.int (nI e0)]) C0 (ctX2_orderOf_t (I := I) (J := J) (q := p) (e0 := e0) hX.2.1 hW (by omega)) (cwV 1 C0.1.2.2.2.2 gX3_order_X2_orderOf rfl rfl rfl (by decide +kernel) (by rw [hR]; exact ⟨Nat.le_of_ble_eq_true rfl, Nat.le_of_ble_eq_true rfl⟩)) hM hX.2.1.1.1 hX.2.1.1.2 rfl rfl hM hS rfl rfl rfl hl.1 (Nat.le_of_ble_eq_true rfl) dX3_order_24 (by rw [hR]; exact ⟨Nat.zero_le _, Nat.zero_le _⟩) (fun H locs hM hS => ?_)
  refine lv_astore_n (lv' := [(3, .ref (p + 48 + 3 * e0)), (0, .ref x), (1, .int (nI e0)), (2, .int (nI 4))]) hx hb dX3_order_27 rfl hl (by decide) rfl (fun ls hl => ?_)
  refine lv_iload_n hx hb dX3_order_28 rfl (lv_at hl 3 rfl) ?_
  refine lv_tableOut (tgt := 111) hx hb dX3_order_29 (by decide) (by decide) ?_
  refine lv_aload_n hx hb dX3_order_111 rfl (lv_at hl 0 rfl) ?_
  refine mr_callV (As := []) C0 (ctX1_needlessEdges (I := I) (J := J) (a := (p + 48 + 3 * e0)) (hX.2.1.2.2.2.2.2.2.2.1 _ (by omega))) (cwV 0 C0.1.2.2.2.2 gX3_order_X1_needlessEdges rfl rfl rfl (by decide +kernel) (by rw [hR]; exact ⟨Nat.le_of_ble_eq_true rfl, Nat.le_of_ble_eq_true rfl⟩)) hM (hX.2.1.2.2.2.2.2.2.2.1 _ (by omega)).1.1 (hX.2.1.2.2.2.2.2.2.2.1 _ (by omega)).1.2 rfl rfl hM hS rfl rfl rfl hl.1 (Nat.le_of_ble_eq_true rfl) dX3_order_112 (by rw [hR]; exact ⟨Nat.zero_le _, Nat.zero_le _⟩) (fun H locs hM hS => ?_)
  skip
  exact mr_iret (v := fX1_needlessEdges I (p + 48 + 3 * e0)) C0 hr hlk hQ hS rfl hM (Nat.le_refl _) (Nat.le_refl _) dX3_order_115
set_option maxHeartbeats 4000000 in
set_option maxRecDepth 100000 in
theorem ctX3_lists_t {l : Launch} {D : va_G} {T : Nat → ClassId} {L : List Nat} {A : Nat → Prop} {Sh : hm_S} {I : hm_I} {J : hm_J} {x p f h m k j : Nat} {hs im : Nat → Nat} (hX : IsX L Sh x p f h m k j hs im) (hA : ApX x p f h m k j hs im) {c : Nat → Nat} {e : Nat → Nat → Nat} {ec lc : Nat} (hW : WfS I p c e ec lc) {e0 : Nat} (he0 : e0 < ec) (ho : fX3_isEpochOrDraft ec (nI e0) = true) {u0 : Nat} (hu0 : u0 < 256) (hset : I p 0 = nI u0) :
    Ct l yX3_lists wsX3_lists { frames := 3, cells := 0, slots := 0, locals := 69 } 0 0 D T A [.ref x, .int (nI e0)] (hm D T L A Sh I J) (some (.long ((fX1_countLists I J (p + 48 + 3 * e0) u0 j).1))) (hm D T L A Sh I ((fX1_countLists I J (p + 48 + 3 * e0) u0 j).2)) := by
  refine Ct.ofW (cc := cX3_lists) (maxL := 2) (ret := (some .long)) (by decide) rfl (Nat.le_of_ble_eq_true rfl) ?_
  intro p_ e_ s_ m_ args_ below_ meth_ c_ ls R Qq hR hQ C0 hr hlk hname hM hl
  have hx := C0.1.1
  have hb := C0.1.2.1
  have hS : va_S A s_.heap s_.heap [] := va_S.rf
  have hl : lv_has ls 2 [(0, .ref x), (1, .int (nI e0))] := hl
  have hec10 := hW.2.2.2.2.1
  have hec1 := hW.2.2.2.1
  refine lv_aload_n hx hb dX3_lists_0 rfl (lv_at hl 0 rfl) ?_
  refine lv_iload_n hx hb dX3_lists_1 rfl (lv_at hl 1 rfl) ?_
  refine mr_callV (As := [.int (nI e0)]) C0 (ctX3_isEpochOrDraft (I := I) (J := J) (e0 := (nI e0)) hX hA hW) (cwV 1 C0.1.2.2.2.2 gX3_lists_X3_isEpochOrDraft rfl rfl rfl (by decide +kernel) (by rw [hR]; exact ⟨Nat.le_of_ble_eq_true rfl, Nat.le_of_ble_eq_true rfl⟩)) hM hX.1.1 hX.1.2 rfl rfl hM hS rfl rfl rfl hl.1 (Nat.le_of_ble_eq_true rfl) dX3_lists_2 (by rw [hR]; exact ⟨Nat.zero_le _, Nat.zero_le _⟩) (fun H locs hM hS => ?_)
  refine mr_neB (tgt := 12) C0 dX3_lists_5 (by decide) (fun c1 => ?_) (fun c1 => absurd c1 (by rw [ho]; decide))
  refine lv_aload_n hx hb dX3_lists_12 rfl (lv_at hl 0 rfl) ?_
  refine mr_getr (r := p) (TT := TX3) (N := 7) C0 uX3_lists_X3 hM hX.1.1 hX.1.2 rfl 0 (by decide) rfl kX3_lists_f10 rfl dX3_lists_13 ?_
  refine lv_iload_n hx hb dX3_lists_16 rfl (lv_at hl 1 rfl) ?_
  refine mr_callV (As := [.int (nI e0)]) C0 (ctX2_orderOf_t (I := I) (J := J) (q := p) (e0 := e0) hX.2.1 hW (by omega)) (cwV 1 C0.1.2.2.2.2 gX3_lists_X2_orderOf rfl rfl rfl (by decide +kernel) (by rw [hR]; exact ⟨Nat.le_of_ble_eq_true rfl, Nat.le_of_ble_eq_true rfl⟩)) hM hX.2.1.1.1 hX.2.1.1.2 rfl rfl hM hS rfl rfl rfl hl.1 (Nat.le_of_ble_eq_true rfl) dX3_lists_17 (by rw [hR]; exact ⟨Nat.zero_le _, Nat.zero_le _⟩) (fun H locs hM hS => ?_)
  refine lv_aload_n hx hb dX3_lists_20 rfl (lv_at hl 0 rfl) ?_
  refine mr_getr (r := p) (TT := TX3) (N := 7) C0 uX3_lists_X3 hM hX.1.1 hX.1.2 rfl 0 (by decide) rfl kX3_lists_f10 rfl dX3_lists_21 ?_
  refine mr_geti (v := nI u0) (TT := TX2) (N := 10) C0 uX3_lists_X2 hM hX.2.1.1.1 hX.2.1.1.2 rfl 0 (by decide) rfl hset kX3_lists_f56 rfl dX3_lists_24 ?_
  refine lv_aload_n hx hb dX3_lists_27 rfl (lv_at hl 0 rfl) ?_
  refine mr_getr (r := j) (TT := TX3) (N := 7) C0 uX3_lists_X3 hM hX.1.1 hX.1.2 rfl 6 (by decide) rfl kX3_lists_f34 rfl dX3_lists_28 ?_
  refine mr_callV (As := [.int (nI u0), .ref j]) C0 (ctX1_countLists (I := I) (J := J) (a := (p + 48 + 3 * e0)) (u := u0) (ja := j) (hX.2.1.2.2.2.2.2.2.2.1 _ (by omega)) (by omega) ⟨hX.2.2.2.2.2.2.2.2.1, hX.2.2.2.2.2.2.2.2.2⟩) (cwV 2 C0.1.2.2.2.2 gX3_lists_X1_countLists rfl rfl rfl (by decide +kernel) (by rw [hR]; exact ⟨Nat.le_of_ble_eq_true rfl, Nat.le_of_ble_eq_true rfl⟩)) hM (hX.2.1.2.2.2.2.2.2.2.1 _ (by omega)).1.1 (hX.2.1.2.2.2.2.2.2.2.1 _ (by omega)).1.2 rfl rfl hM hS rfl rfl rfl hl.1 (Nat.le_of_ble_eq_true rfl) dX3_lists_31 (by rw [hR]; exact ⟨Nat.zero_le _, Nat.zero_le _⟩) (fun H locs hM hS => ?_)
  skip
  exact mr_lret (v := (fX1_countLists I J (p + 48 + 3 * e0) u0 j).1) C0 hr hlk hQ hS rfl hM (Nat.le_refl _) (Nat.le_refl _) dX3_lists_34
set_option maxHeartbeats 4000000 in
set_option maxRecDepth 100000 in
theorem ctX3_keep_b {l : Launch} {D : va_G} {T : Nat → ClassId} {L : List Nat} {A : Nat → Prop} {Sh : hm_S} {I : hm_I} {J : hm_J} {x p f h m k j : Nat} {hs im : Nat → Nat} (hX : IsX L Sh x p f h m k j hs im) {i0 : Int32} (hb0 : fX3_isWithin i0 (nI 0) (nI 1) = false) :
    Ct l yX3_keep wsX3_keep { frames := 1, cells := 0, slots := 0, locals := 22 } 0 0 D T A [.ref x, .int i0] (hm D T L A Sh I J) (some (.int (-1))) (hm D T L A Sh I J) := by
  refine Ct.ofW (cc := cX3_keep) (maxL := 2) (ret := (some .int)) (by decide) rfl (Nat.le_of_ble_eq_true rfl) ?_
  intro p_ e_ s_ m_ args_ below_ meth_ c_ ls R Qq hR hQ C0 hr hlk hname hM hl
  have hx := C0.1.1
  have hb := C0.1.2.1
  have hS : va_S A s_.heap s_.heap [] := va_S.rf
  have hl : lv_has ls 2 [(0, .ref x), (1, .int i0)] := hl
  refine lv_iload_n hx hb dX3_keep_0 rfl (lv_at hl 1 rfl) ?_
  refine lv_iconst (v := nI 0) hx hb dX3_keep_1 (by decide) ?_
  refine lv_iconst (v := nI 1) hx hb dX3_keep_2 (by decide) ?_
  refine mr_callS (As := [.int i0, .int (nI 0), .int (nI 1)]) C0 (ctX3_isWithin (I := I) (J := J) (v := i0) (lo := (nI 0)) (up := (nI 1)) ) (va_cwS 3 C0.1.2.2.2.2 gX3_keep_X3_isWithin rfl rfl rfl (by decide +kernel) (by rw [hR]; exact ⟨Nat.le_of_ble_eq_true rfl, Nat.le_of_ble_eq_true rfl⟩)) hM hS rfl rfl rfl hl.1 (Nat.le_of_ble_eq_true rfl) dX3_keep_3 (by rw [hR]; exact ⟨Nat.zero_le _, Nat.zero_le _⟩) (fun H locs hM hS => ?_)
  refine mr_neB (tgt := 11) C0 dX3_keep_6 (by decide) (fun c1 => absurd c1 (by rw [hb0]; decide)) (fun c1 => ?_)
  refine lv_iconst (v := (-1)) hx hb dX3_keep_9 (by decide) ?_
  skip
  exact mr_iret (v := (-1)) C0 hr hlk hQ hS rfl hM (Nat.le_refl _) (Nat.le_refl _) dX3_keep_10
set_option maxHeartbeats 4000000 in
set_option maxRecDepth 100000 in
theorem ctX3_back_b {l : Launch} {D : va_G} {T : Nat → ClassId} {L : List Nat} {A : Nat → Prop} {Sh : hm_S} {I : hm_I} {J : hm_J} {x p f h m k j : Nat} {hs im : Nat → Nat} (hX : IsX L Sh x p f h m k j hs im) {i0 : Int32} (hb0 : fX3_isWithin i0 (nI 0) (nI 1) = false) :
    Ct l yX3_back wsX3_back { frames := 1, cells := 0, slots := 0, locals := 22 } 0 0 D T A [.ref x, .int i0] (hm D T L A Sh I J) (some (.int (-1))) (hm D T L A Sh I J) := by
  refine Ct.ofW (cc := cX3_back) (maxL := 2) (ret := (some .int)) (by decide) rfl (Nat.le_of_ble_eq_true rfl) ?_
  intro p_ e_ s_ m_ args_ below_ meth_ c_ ls R Qq hR hQ C0 hr hlk hname hM hl
  have hx := C0.1.1
  have hb := C0.1.2.1
  have hS : va_S A s_.heap s_.heap [] := va_S.rf
  have hl : lv_has ls 2 [(0, .ref x), (1, .int i0)] := hl
  refine lv_iload_n hx hb dX3_back_0 rfl (lv_at hl 1 rfl) ?_
  refine lv_iconst (v := nI 0) hx hb dX3_back_1 (by decide) ?_
  refine lv_iconst (v := nI 1) hx hb dX3_back_2 (by decide) ?_
  refine mr_callS (As := [.int i0, .int (nI 0), .int (nI 1)]) C0 (ctX3_isWithin (I := I) (J := J) (v := i0) (lo := (nI 0)) (up := (nI 1)) ) (va_cwS 3 C0.1.2.2.2.2 gX3_back_X3_isWithin rfl rfl rfl (by decide +kernel) (by rw [hR]; exact ⟨Nat.le_of_ble_eq_true rfl, Nat.le_of_ble_eq_true rfl⟩)) hM hS rfl rfl rfl hl.1 (Nat.le_of_ble_eq_true rfl) dX3_back_3 (by rw [hR]; exact ⟨Nat.zero_le _, Nat.zero_le _⟩) (fun H locs hM hS => ?_)
  refine mr_neB (tgt := 11) C0 dX3_back_6 (by decide) (fun c1 => absurd c1 (by rw [hb0]; decide)) (fun c1 => ?_)
  refine lv_iconst (v := (-1)) hx hb dX3_back_9 (by decide) ?_
  skip
  exact mr_iret (v := (-1)) C0 hr hlk hQ hS rfl hM (Nat.le_refl _) (Nat.le_refl _) dX3_back_10
def fX3_keep_t (I : hm_I) (p k i0 : Nat) (im c : Nat → Nat) (ec lc : Nat) : Int32 × hm_I :=
  (fX2_waitingCount c, hm_put (fX2_copyFrom I (im i0) p c ec lc) k i0 (nI 1))
set_option maxHeartbeats 4000000 in
set_option maxRecDepth 100000 in
theorem ctX3_keep_t {l : Launch} {D : va_G} {T : Nat → ClassId} {L : List Nat} {A : Nat → Prop} {Sh : hm_S} {I : hm_I} {J : hm_J} {x p f h m k j : Nat} {hs im : Nat → Nat} (hX : IsX L Sh x p f h m k j hs im) (hA : ApX x p f h m k j hs im) {c : Nat → Nat} {e : Nat → Nat → Nat} {ec lc : Nat} (hW : WfS I p c e ec lc) {i0 : Nat} (hi0 : i0 < 2) (hw0 : fX3_isWithin (nI i0) (nI 0) (nI 1) = true) :
    Ct l yX3_keep wsX3_keep { frames := 3, cells := 0, slots := 0, locals := 65 } 0 0 D T A [.ref x, .int (nI i0)] (hm D T L A Sh I J) (some (.int ((fX3_keep_t I p k i0 im c ec lc).1))) (hm D T L A Sh ((fX3_keep_t I p k i0 im c ec lc).2) J) := by
  refine Ct.ofW (cc := cX3_keep) (maxL := 2) (ret := (some .int)) (by decide) rfl (Nat.le_of_ble_eq_true rfl) ?_
  intro p_ e_ s_ m_ args_ below_ meth_ c_ ls R Qq hR hQ C0 hr hlk hname hM hl
  have hx := C0.1.1
  have hb := C0.1.2.1
  have hS : va_S A s_.heap s_.heap [] := va_S.rf
  have hl : lv_has ls 2 [(0, .ref x), (1, .int (nI i0))] := hl
  have hec10 := hW.2.2.2.2.1
  have hec1 := hW.2.2.2.1
  have hf1 : p + 83 ≤ im i0 ∨ im i0 + 83 ≤ p := hA.2.2.2.2.1 i0 hi0
  have hok0 : k < p ∨ p + 83 ≤ k := (hA.2.1 k (Or.inr (Or.inr (Or.inr (Or.inl rfl))))).1
  refine lv_iload_n hx hb dX3_keep_0 rfl (lv_at hl 1 rfl) ?_
  refine lv_iconst (v := nI 0) hx hb dX3_keep_1 (by decide) ?_
  refine lv_iconst (v := nI 1) hx hb dX3_keep_2 (by decide) ?_
  refine mr_callS (As := [.int (nI i0), .int (nI 0), .int (nI 1)]) C0 (ctX3_isWithin (I := I) (J := J) (v := (nI i0)) (lo := (nI 0)) (up := (nI 1)) ) (va_cwS 3 C0.1.2.2.2.2 gX3_keep_X3_isWithin rfl rfl rfl (by decide +kernel) (by rw [hR]; exact ⟨Nat.le_of_ble_eq_true rfl, Nat.le_of_ble_eq_true rfl⟩)) hM hS rfl rfl rfl hl.1 (Nat.le_of_ble_eq_true rfl) dX3_keep_3 (by rw [hR]; exact ⟨Nat.zero_le _, Nat.zero_le _⟩) (fun H locs hM hS => ?_)
  refine mr_neB (tgt := 11) C0 dX3_keep_6 (by decide) (fun c1 => ?_) (fun c1 => absurd c1 (by rw [hw0]; decide))
  refine lv_aload_n hx hb dX3_keep_11 rfl (lv_at hl 0 rfl) ?_
  refine mr_getr (r := m) (TT := TX3) (N := 7) C0 uX3_keep_X3 hM hX.1.1 hX.1.2 rfl 4 (by decide) rfl kX3_keep_f27 rfl dX3_keep_12 ?_
  refine lv_iload_n hx hb dX3_keep_15 rfl (lv_at hl 1 rfl) ?_
  refine mr_aald (t := 2) (C := RX2) (r := im i0) C0 hM hX.2.2.2.2.2.1.1 hX.2.2.2.2.2.1.2 rfl (by decide) (by omega) rfl dX3_keep_16 ?_
  refine lv_aload_n hx hb dX3_keep_17 rfl (lv_at hl 0 rfl) ?_
  refine mr_getr (r := p) (TT := TX3) (N := 7) C0 uX3_keep_X3 hM hX.1.1 hX.1.2 rfl 0 (by decide) rfl kX3_keep_f10 rfl dX3_keep_18 ?_
  refine mr_callV (As := [.ref p]) C0 (ctX2_copyFrom (I := I) (J := J) (q := (im i0)) (r := p) (hX.2.2.2.2.2.2.1 _ (by omega)) hX.2.1 hW (by omega)) (cwV 1 C0.1.2.2.2.2 gX3_keep_X2_copyFrom rfl rfl rfl (by decide +kernel) (by rw [hR]; exact ⟨Nat.le_of_ble_eq_true rfl, Nat.le_of_ble_eq_true rfl⟩)) hM (hX.2.2.2.2.2.2.1 _ (by omega)).1.1 (hX.2.2.2.2.2.2.1 _ (by omega)).1.2 rfl rfl hM hS rfl rfl rfl hl.1 (Nat.le_of_ble_eq_true rfl) dX3_keep_21 (by rw [hR]; exact ⟨Nat.zero_le _, Nat.zero_le _⟩) (fun H locs hM hS => ?_)
  refine lv_aload_n hx hb dX3_keep_24 rfl (lv_at hl 0 rfl) ?_
  refine mr_getr (r := k) (TT := TX3) (N := 7) C0 uX3_keep_X3 hM hX.1.1 hX.1.2 rfl 5 (by decide) rfl kX3_keep_f30 rfl dX3_keep_25 ?_
  refine lv_iload_n hx hb dX3_keep_28 rfl (lv_at hl 1 rfl) ?_
  refine lv_iconst (v := nI 1) hx hb dX3_keep_29 (by decide) ?_
  refine mr_zastN C0 hM hS hX.2.2.2.2.2.2.2.1.1 hX.2.2.2.2.2.2.2.1.2 (by decide) (by omega) (by decide) dX3_keep_30 (fun H locs hM hS => ?_)
  refine lv_aload_n hx hb dX3_keep_31 rfl (lv_at hl 0 rfl) ?_
  refine mr_getr (r := p) (TT := TX3) (N := 7) C0 uX3_keep_X3 hM hX.1.1 hX.1.2 rfl 0 (by decide) rfl kX3_keep_f10 rfl dX3_keep_32 ?_
  refine mr_callV (As := []) C0 (ctX2_waitingCount (I := (hm_put (fX2_copyFrom I (im i0) p c ec lc) k i0 (nI 1))) (J := J) (q := p) hX.2.1 (WfS_out hW (fun a h1 h2 => (hm_put_ne _ _ _ _ (by omega)).trans (fX2_copyFrom_ne hec10 (show outq _ _ from by unfold outq; omega))))) (cwV 0 C0.1.2.2.2.2 gX3_keep_X2_waitingCount rfl rfl rfl (by decide +kernel) (by rw [hR]; exact ⟨Nat.le_of_ble_eq_true rfl, Nat.le_of_ble_eq_true rfl⟩)) hM hX.2.1.1.1 hX.2.1.1.2 rfl rfl hM hS rfl rfl rfl hl.1 (Nat.le_of_ble_eq_true rfl) dX3_keep_35 (by rw [hR]; exact ⟨Nat.zero_le _, Nat.zero_le _⟩) (fun H locs hM hS => ?_)
  have eF : (fX2_waitingCount c, hm_put (fX2_copyFrom I (im i0) p c ec lc) k i0 (nI 1)) = fX3_keep_t I p k i0 im c ec lc := rfl
  exact mr_iret (v := fX2_waitingCount c) C0 hr hlk hQ hS (by rw [← eF]) (by rw [← eF]; exact hM) (Nat.le_refl _) (Nat.le_refl _) dX3_keep_38
set_option maxHeartbeats 4000000 in
set_option maxRecDepth 100000 in
theorem ctX3_back_s {l : Launch} {D : va_G} {T : Nat → ClassId} {L : List Nat} {A : Nat → Prop} {Sh : hm_S} {I : hm_I} {J : hm_J} {x p f h m k j : Nat} {hs im : Nat → Nat} (hX : IsX L Sh x p f h m k j hs im) (hA : ApX x p f h m k j hs im) {c : Nat → Nat} {e : Nat → Nat → Nat} {ec lc : Nat} (hW : WfS I p c e ec lc) {n : Nat} (hn : I x 3 = nI n) (hn8 : n ≤ 8) {i0 : Nat} (hi0 : i0 < 2) (hw0 : fX3_isWithin (nI i0) (nI 0) (nI 1) = true) (hk0 : I k i0 = 0) :
    Ct l yX3_back wsX3_back { frames := 1, cells := 0, slots := 0, locals := 22 } 0 0 D T A [.ref x, .int (nI i0)] (hm D T L A Sh I J) (some (.int (-2))) (hm D T L A Sh I J) := by
  refine Ct.ofW (cc := cX3_back) (maxL := 2) (ret := (some .int)) (by decide) rfl (Nat.le_of_ble_eq_true rfl) ?_
  intro p_ e_ s_ m_ args_ below_ meth_ c_ ls R Qq hR hQ C0 hr hlk hname hM hl
  have hx := C0.1.1
  have hb := C0.1.2.1
  have hS : va_S A s_.heap s_.heap [] := va_S.rf
  have hl : lv_has ls 2 [(0, .ref x), (1, .int (nI i0))] := hl
  have hec10 := hW.2.2.2.2.1
  have hec1 := hW.2.2.2.1
  refine lv_iload_n hx hb dX3_back_0 rfl (lv_at hl 1 rfl) ?_
  refine lv_iconst (v := nI 0) hx hb dX3_back_1 (by decide) ?_
  refine lv_iconst (v := nI 1) hx hb dX3_back_2 (by decide) ?_
  refine mr_callS (As := [.int (nI i0), .int (nI 0), .int (nI 1)]) C0 (ctX3_isWithin (I := I) (J := J) (v := (nI i0)) (lo := (nI 0)) (up := (nI 1)) ) (va_cwS 3 C0.1.2.2.2.2 gX3_back_X3_isWithin rfl rfl rfl (by decide +kernel) (by rw [hR]; exact ⟨Nat.le_of_ble_eq_true rfl, Nat.le_of_ble_eq_true rfl⟩)) hM hS rfl rfl rfl hl.1 (Nat.le_of_ble_eq_true rfl) dX3_back_3 (by rw [hR]; exact ⟨Nat.zero_le _, Nat.zero_le _⟩) (fun H locs hM hS => ?_)
  refine mr_neB (tgt := 11) C0 dX3_back_6 (by decide) (fun c1 => ?_) (fun c1 => absurd c1 (by rw [hw0]; decide))
  refine lv_aload_n hx hb dX3_back_11 rfl (lv_at hl 0 rfl) ?_
  refine mr_getr (r := k) (TT := TX3) (N := 7) C0 uX3_back_X3 hM hX.1.1 hX.1.2 rfl 5 (by decide) rfl kX3_back_f30 rfl dX3_back_12 ?_
  refine lv_iload_n hx hb dX3_back_15 rfl (lv_at hl 1 rfl) ?_
  refine mr_zaldN (v := I k i0) C0 hM hX.2.2.2.2.2.2.2.1.1 hX.2.2.2.2.2.2.2.1.2 (by decide) (by omega) rfl dX3_back_16 ?_
  refine lv_if_ne (tgt := 23) hx hb dX3_back_17 (by decide) (fun c2 => absurd hk0 c2) (fun c2 => ?_)
  refine lv_bipush (v := (-2)) hx hb dX3_back_20 (by decide) ?_
  skip
  exact mr_iret (v := (-2)) C0 hr hlk hQ hS rfl hM (Nat.le_refl _) (Nat.le_refl _) dX3_back_22
def fX3_back_t (I : hm_I) (x p n : Nat) (hs c : Nat → Nat) (ec lc : Nat) (im : Nat → Nat) (i0 : Nat) (cc2 : Nat → Nat) (ec2 lc2 : Nat) : Int32 × hm_I :=
  (fX2_waitingCount cc2, fX2_copyFrom (recI I x p n hs c ec lc) p (im i0) cc2 ec2 lc2)
set_option maxHeartbeats 4000000 in
set_option maxRecDepth 100000 in
theorem ctX3_back_t {l : Launch} {D : va_G} {T : Nat → ClassId} {L : List Nat} {A : Nat → Prop} {Sh : hm_S} {I : hm_I} {J : hm_J} {x p f h m k j : Nat} {hs im : Nat → Nat} (hX : IsX L Sh x p f h m k j hs im) (hA : ApX x p f h m k j hs im) {c : Nat → Nat} {e : Nat → Nat → Nat} {ec lc : Nat} (hW : WfS I p c e ec lc) {n : Nat} (hn : I x 3 = nI n) (hn8 : n ≤ 8) {i0 : Nat} (hi0 : i0 < 2) (hw0 : fX3_isWithin (nI i0) (nI 0) (nI 1) = true) (hk0 : ¬ I k i0 = 0) {cc2 : Nat → Nat} {ee2 : Nat → Nat → Nat} {ec2 lc2 : Nat} (hW2 : WfS (recI I x p n hs c ec lc) (im i0) cc2 ee2 ec2 lc2) (hW3 : WfS (fX2_copyFrom (recI I x p n hs c ec lc) p (im i0) cc2 ec2 lc2) p cc2 ee2 ec2 lc2) :
    Ct l yX3_back wsX3_back { frames := 4, cells := 0, slots := 0, locals := 85 } 0 0 D T A [.ref x, .int (nI i0)] (hm D T L A Sh I J) (some (.int ((fX3_back_t I x p n hs c ec lc im i0 cc2 ec2 lc2).1))) (hm D T L A (recSh Sh h hs n) ((fX3_back_t I x p n hs c ec lc im i0 cc2 ec2 lc2).2) J) := by
  refine Ct.ofW (cc := cX3_back) (maxL := 2) (ret := (some .int)) (by decide) rfl (Nat.le_of_ble_eq_true rfl) ?_
  intro p_ e_ s_ m_ args_ below_ meth_ c_ ls R Qq hR hQ C0 hr hlk hname hM hl
  have hx := C0.1.1
  have hb := C0.1.2.1
  have hS : va_S A s_.heap s_.heap [] := va_S.rf
  have hl : lv_has ls 2 [(0, .ref x), (1, .int (nI i0))] := hl
  have hec10 := hW.2.2.2.2.1
  have hec1 := hW.2.2.2.1
  have hf1 : p + 83 ≤ im i0 ∨ im i0 + 83 ≤ p := hA.2.2.2.2.1 i0 hi0
  have hok0 : k < p ∨ p + 83 ≤ k := (hA.2.1 k (Or.inr (Or.inr (Or.inr (Or.inl rfl))))).1
  refine lv_iload_n hx hb dX3_back_0 rfl (lv_at hl 1 rfl) ?_
  refine lv_iconst (v := nI 0) hx hb dX3_back_1 (by decide) ?_
  refine lv_iconst (v := nI 1) hx hb dX3_back_2 (by decide) ?_
  refine mr_callS (As := [.int (nI i0), .int (nI 0), .int (nI 1)]) C0 (ctX3_isWithin (I := I) (J := J) (v := (nI i0)) (lo := (nI 0)) (up := (nI 1)) ) (va_cwS 3 C0.1.2.2.2.2 gX3_back_X3_isWithin rfl rfl rfl (by decide +kernel) (by rw [hR]; exact ⟨Nat.le_of_ble_eq_true rfl, Nat.le_of_ble_eq_true rfl⟩)) hM hS rfl rfl rfl hl.1 (Nat.le_of_ble_eq_true rfl) dX3_back_3 (by rw [hR]; exact ⟨Nat.zero_le _, Nat.zero_le _⟩) (fun H locs hM hS => ?_)
  refine mr_neB (tgt := 11) C0 dX3_back_6 (by decide) (fun c1 => ?_) (fun c1 => absurd c1 (by rw [hw0]; decide))
  refine lv_aload_n hx hb dX3_back_11 rfl (lv_at hl 0 rfl) ?_
  refine mr_getr (r := k) (TT := TX3) (N := 7) C0 uX3_back_X3 hM hX.1.1 hX.1.2 rfl 5 (by decide) rfl kX3_back_f30 rfl dX3_back_12 ?_
  refine lv_iload_n hx hb dX3_back_15 rfl (lv_at hl 1 rfl) ?_
  refine mr_zaldN (v := I k i0) C0 hM hX.2.2.2.2.2.2.2.1.1 hX.2.2.2.2.2.2.2.1.2 (by decide) (by omega) rfl dX3_back_16 ?_
  refine lv_if_ne (tgt := 23) hx hb dX3_back_17 (by decide) (fun c2 => ?_) (fun c2 => absurd c2 hk0)
  refine lv_aload_n hx hb dX3_back_23 rfl (lv_at hl 0 rfl) ?_
  refine mr_callV (As := []) C0 (ctX3_record (I := I) (J := J) hX hA hW hn (by omega)) (cwV 0 C0.1.2.2.2.2 gX3_back_X3_record rfl rfl rfl (by decide +kernel) (by rw [hR]; exact ⟨Nat.le_of_ble_eq_true rfl, Nat.le_of_ble_eq_true rfl⟩)) hM hX.1.1 hX.1.2 rfl rfl hM hS rfl rfl rfl hl.1 (Nat.le_of_ble_eq_true rfl) dX3_back_24 (by rw [hR]; exact ⟨Nat.zero_le _, Nat.zero_le _⟩) (fun H locs hM hS => ?_)
  have hX2 := IsX_rec (n := n) hX hA
  refine lv_aload_n hx hb dX3_back_27 rfl (lv_at hl 0 rfl) ?_
  refine mr_getr (r := p) (TT := TX3) (N := 7) C0 uX3_back_X3 hM hX2.1.1 hX2.1.2 rfl 0 (by decide) rfl kX3_back_f10 rfl dX3_back_28 ?_
  refine lv_aload_n hx hb dX3_back_31 rfl (lv_at hl 0 rfl) ?_
  refine mr_getr (r := m) (TT := TX3) (N := 7) C0 uX3_back_X3 hM hX2.1.1 hX2.1.2 rfl 4 (by decide) rfl kX3_back_f27 rfl dX3_back_32 ?_
  refine lv_iload_n hx hb dX3_back_35 rfl (lv_at hl 1 rfl) ?_
  refine mr_aald (t := 2) (C := RX2) (r := im i0) C0 hM hX2.2.2.2.2.2.1.1 hX2.2.2.2.2.2.1.2 rfl (by decide) (by omega) rfl dX3_back_36 ?_
  refine mr_callV (As := [.ref (im i0)]) C0 (ctX2_copyFrom (I := (recI I x p n hs c ec lc)) (J := J) (q := p) (r := (im i0)) hX2.2.1 (hX2.2.2.2.2.2.2.1 _ (by omega)) hW2 (by omega)) (cwV 1 C0.1.2.2.2.2 gX3_back_X2_copyFrom rfl rfl rfl (by decide +kernel) (by rw [hR]; exact ⟨Nat.le_of_ble_eq_true rfl, Nat.le_of_ble_eq_true rfl⟩)) hM hX2.2.1.1.1 hX2.2.1.1.2 rfl rfl hM hS rfl rfl rfl hl.1 (Nat.le_of_ble_eq_true rfl) dX3_back_37 (by rw [hR]; exact ⟨Nat.zero_le _, Nat.zero_le _⟩) (fun H locs hM hS => ?_)
  refine lv_aload_n hx hb dX3_back_40 rfl (lv_at hl 0 rfl) ?_
  refine mr_getr (r := p) (TT := TX3) (N := 7) C0 uX3_back_X3 hM hX2.1.1 hX2.1.2 rfl 0 (by decide) rfl kX3_back_f10 rfl dX3_back_41 ?_
  refine mr_callV (As := []) C0 (ctX2_waitingCount (I := (fX2_copyFrom (recI I x p n hs c ec lc) p (im i0) cc2 ec2 lc2)) (J := J) (q := p) hX2.2.1 hW3) (cwV 0 C0.1.2.2.2.2 gX3_back_X2_waitingCount rfl rfl rfl (by decide +kernel) (by rw [hR]; exact ⟨Nat.le_of_ble_eq_true rfl, Nat.le_of_ble_eq_true rfl⟩)) hM hX2.2.1.1.1 hX2.2.1.1.2 rfl rfl hM hS rfl rfl rfl hl.1 (Nat.le_of_ble_eq_true rfl) dX3_back_44 (by rw [hR]; exact ⟨Nat.zero_le _, Nat.zero_le _⟩) (fun H locs hM hS => ?_)
  have eF : (fX2_waitingCount cc2, fX2_copyFrom (recI I x p n hs c ec lc) p (im i0) cc2 ec2 lc2) = fX3_back_t I x p n hs c ec lc im i0 cc2 ec2 lc2 := rfl
  exact mr_iret (v := fX2_waitingCount cc2) C0 hr hlk hQ hS (by rw [← eF]) (by rw [← eF]; exact hM) (Nat.le_refl _) (Nat.le_refl _) dX3_back_47
/-- the class' state's numbers, read off its cells -/
def cS (I : hm_I) (q s : Nat) : Nat := (I (q + 4 + 5 * s) 4).toNatClampNeg
def eS (I : hm_I) (q s k : Nat) : Nat := (I ((q + 4 + 5 * s) + 4) k).toNatClampNeg
def ecS (I : hm_I) (q : Nat) : Nat := (I q 6).toNatClampNeg
def lcS (I : hm_I) (q : Nat) : Nat := (I (q + 78) 4).toNatClampNeg
def WfSC (I : hm_I) (q : Nat) : Prop := WfS I q (cS I q) (eS I q) (ecS I q) (lcS I q)
def nsS (I : hm_I) (q : Nat) : Int32 := fX2_nextStream I q (cS I q) (eS I q)
def kS (I : hm_I) (q : Nat) : Nat := (nsS I q).toNatClampNeg
def sfS (I : hm_I) (q : Nat) : hm_I := fX2_sendFirst_t I q (cS I q) (lcS I q) (kS I q)
def okS (I : hm_I) (q : Nat) : Prop := kS I q < 8 ∧ 0 < cS I q (kS I q) ∧ nsS I q = nI (kS I q)
def szS (I : hm_I) (q : Nat) : Int32 := I ((q + 4 + 5 * kS I q) + 3) 0
def ss1S (x : hm_I × Int32) (q : Nat) : hm_I × Int32 := (sfS x.1 q, x.2 - szS x.1 q)
def SomeS (R : hm_I) (q m : Nat) (bud : Int32) (Inv : Nat → hm_I × Int32 → Prop) : Prop :=
  m ≤ 48 ∧ WfSC R q ∧ Inv 0 (R, bud) ∧ (∀ i x, i < m → WfSC x.1 q → Inv i x → WfSC (ss1S x q).1 q) ∧ (∀ i x, i < m → WfSC x.1 q → Inv i x → Inv (i + 1) (ss1S x q)) ∧ (∀ i x, i < m → WfSC x.1 q → Inv i x → okS x.1 q) ∧ (∀ i x, i < m → WfSC x.1 q → Inv i x → szS x.1 q ≤ x.2)
def endSA (q m : Nat) (Inv : Nat → hm_I × Int32 → Prop) : Prop := m < 48 ∧ ∀ x, WfSC x.1 q → Inv m x → nsS x.1 q = -9
def endSB (q m : Nat) (Inv : Nat → hm_I × Int32 → Prop) : Prop := m < 48 ∧ ∀ x, WfSC x.1 q → Inv m x → okS x.1 q ∧ ¬ szS x.1 q ≤ x.2
def endSC (m : Nat) : Prop := m = 48
def sb1 (x : hm_I × Int32) (q s0 : Nat) : hm_I × Int32 := if kS x.1 q = s0 then (sfS x.1 q, x.2 + (-1)) else (sfS x.1 q, x.2)
def BefS (R : hm_I) (q s0 m k0 : Nat) (Inv : Nat → hm_I × Int32 → Prop) : Prop :=
  m < 48 ∧ WfSC R q ∧ Inv 0 (R, nI k0) ∧ (∀ i x, i < m → WfSC x.1 q → Inv i x → WfSC (sb1 x q s0).1 q) ∧ (∀ i x, i < m → WfSC x.1 q → Inv i x → Inv (i + 1) (sb1 x q s0)) ∧ (∀ i x, i ≤ m → WfSC x.1 q → Inv i x → okS x.1 q) ∧
  (∀ i x, i < m → WfSC x.1 q → Inv i x → ¬ (kS x.1 q = s0 ∧ x.2 = 0)) ∧ (∀ x, WfSC x.1 q → Inv m x → kS x.1 q = s0 ∧ x.2 = 0)
set_option maxHeartbeats 4000000 in
set_option maxRecDepth 100000 in
theorem ctX3_sendSome_b {l : Launch} {D : va_G} {T : Nat → ClassId} {L : List Nat} {A : Nat → Prop} {Sh : hm_S} {I : hm_I} {J : hm_J} {x p f h m k j : Nat} {hs im : Nat → Nat} (hX : IsX L Sh x p f h m k j hs im) {bud : Int32} (hb0 : fX3_isWithin bud (nI 0) (nI 999) = false) :
    Ct l yX3_sendSome wsX3_sendSome { frames := 1, cells := 0, slots := 0, locals := 22 } 0 0 D T A [.ref x, .int bud] (hm D T L A Sh I J) (some (.int (-1))) (hm D T L A Sh I J) := by
  refine Ct.ofW (cc := cX3_sendSome) (maxL := 5) (ret := (some .int)) (by decide) rfl (Nat.le_of_ble_eq_true rfl) ?_
  intro p_ e_ s_ m_ args_ below_ meth_ c_ ls R Qq hR hQ C0 hr hlk hname hM hl
  have hx := C0.1.1
  have hb := C0.1.2.1
  have hS : va_S A s_.heap s_.heap [] := va_S.rf
  have hl : lv_has ls 5 [(0, .ref x), (1, .int bud)] := hl
  refine lv_iload_n hx hb dX3_sendSome_0 rfl (lv_at hl 1 rfl) ?_
  refine lv_iconst (v := nI 0) hx hb dX3_sendSome_1 (by decide) ?_
  refine lv_sipush (v := nI 999) hx hb dX3_sendSome_2 (by decide) ?_
  refine mr_callS (As := [.int bud, .int (nI 0), .int (nI 999)]) C0 (ctX3_isWithin (I := I) (J := J) (v := bud) (lo := (nI 0)) (up := (nI 999)) ) (va_cwS 3 C0.1.2.2.2.2 gX3_sendSome_X3_isWithin rfl rfl rfl (by decide +kernel) (by rw [hR]; exact ⟨Nat.le_of_ble_eq_true rfl, Nat.le_of_ble_eq_true rfl⟩)) hM hS rfl rfl rfl hl.1 (Nat.le_of_ble_eq_true rfl) dX3_sendSome_5 (by rw [hR]; exact ⟨Nat.zero_le _, Nat.zero_le _⟩) (fun H locs hM hS => ?_)
  refine mr_neB (tgt := 13) C0 dX3_sendSome_8 (by decide) (fun c1 => absurd c1 (by rw [hb0]; decide)) (fun c1 => ?_)
  refine lv_iconst (v := (-1)) hx hb dX3_sendSome_11 (by decide) ?_
  skip
  exact mr_iret (v := (-1)) C0 hr hlk hQ hS rfl hM (Nat.le_refl _) (Nat.le_refl _) dX3_sendSome_12
def fX3_sendSome_tA (I : hm_I) (x p n : Nat) (hs c : Nat → Nat) (ec lc : Nat) (m0 : Nat) (bud : Int32) : Int32 × hm_I :=
  (nI m0, (lp m0 (fun i21 x21 => (fX2_sendFirst_t x21.1 p (cS x21.1 p) (lcS x21.1 p) (kS x21.1 p), x21.2 - (x21.1 ((p + 4 + 5 * (kS x21.1 p)) + 3) 0))) ((recI I x p n hs c ec lc), bud)).1)
set_option maxHeartbeats 4000000 in
set_option maxRecDepth 100000 in
theorem ctX3_sendSome_tA {l : Launch} {D : va_G} {T : Nat → ClassId} {L : List Nat} {A : Nat → Prop} {Sh : hm_S} {I : hm_I} {J : hm_J} {x p f h m k j : Nat} {hs im : Nat → Nat} (hX : IsX L Sh x p f h m k j hs im) (hA : ApX x p f h m k j hs im) {c : Nat → Nat} {e : Nat → Nat → Nat} {ec lc : Nat} (hW : WfS I p c e ec lc) {n : Nat} (hn : I x 3 = nI n) (hn8 : n ≤ 8) {bud : Int32} {m0 : Nat} {Inv : Nat → hm_I × Int32 → Prop} (hw0 : fX3_isWithin bud (nI 0) (nI 999) = true) (hB : SomeS (recI I x p n hs c ec lc) p m0 bud Inv) (hEnd : endSA p m0 Inv) :
    Ct l yX3_sendSome wsX3_sendSome { frames := 5, cells := 0, slots := 0, locals := 111 } 0 0 D T A [.ref x, .int bud] (hm D T L A Sh I J) (some (.int ((fX3_sendSome_tA I x p n hs c ec lc m0 bud).1))) (hm D T L A (recSh Sh h hs n) ((fX3_sendSome_tA I x p n hs c ec lc m0 bud).2) J) := by
  refine Ct.ofW (cc := cX3_sendSome) (maxL := 5) (ret := (some .int)) (by decide) rfl (Nat.le_of_ble_eq_true rfl) ?_
  intro p_ e_ s_ m_ args_ below_ meth_ c_ ls R Qq hR hQ C0 hr hlk hname hM hl
  have hx := C0.1.1
  have hb := C0.1.2.1
  have hS : va_S A s_.heap s_.heap [] := va_S.rf
  have hl : lv_has ls 5 [(0, .ref x), (1, .int bud)] := hl
  have hec10 := hW.2.2.2.2.1
  have hec1 := hW.2.2.2.1
  have hm48 := hB.1
  refine lv_iload_n hx hb dX3_sendSome_0 rfl (lv_at hl 1 rfl) ?_
  refine lv_iconst (v := nI 0) hx hb dX3_sendSome_1 (by decide) ?_
  refine lv_sipush (v := nI 999) hx hb dX3_sendSome_2 (by decide) ?_
  refine mr_callS (As := [.int bud, .int (nI 0), .int (nI 999)]) C0 (ctX3_isWithin (I := I) (J := J) (v := bud) (lo := (nI 0)) (up := (nI 999)) ) (va_cwS 3 C0.1.2.2.2.2 gX3_sendSome_X3_isWithin rfl rfl rfl (by decide +kernel) (by rw [hR]; exact ⟨Nat.le_of_ble_eq_true rfl, Nat.le_of_ble_eq_true rfl⟩)) hM hS rfl rfl rfl hl.1 (Nat.le_of_ble_eq_true rfl) dX3_sendSome_5 (by rw [hR]; exact ⟨Nat.zero_le _, Nat.zero_le _⟩) (fun H locs hM hS => ?_)
  refine mr_neB (tgt := 13) C0 dX3_sendSome_8 (by decide) (fun c1 => ?_) (fun c1 => absurd c1 (by rw [hw0]; decide))
  refine lv_aload_n hx hb dX3_sendSome_13 rfl (lv_at hl 0 rfl) ?_
  refine mr_callV (As := []) C0 (ctX3_record (I := I) (J := J) hX hA hW hn (by omega)) (cwV 0 C0.1.2.2.2.2 gX3_sendSome_X3_record rfl rfl rfl (by decide +kernel) (by rw [hR]; exact ⟨Nat.le_of_ble_eq_true rfl, Nat.le_of_ble_eq_true rfl⟩)) hM hX.1.1 hX.1.2 rfl rfl hM hS rfl rfl rfl hl.1 (Nat.le_of_ble_eq_true rfl) dX3_sendSome_14 (by rw [hR]; exact ⟨Nat.zero_le _, Nat.zero_le _⟩) (fun H locs hM hS => ?_)
  have hX2 := IsX_rec (n := n) hX hA
  refine lv_iload_n hx hb dX3_sendSome_17 rfl (lv_at hl 1 rfl) ?_
  refine lv_istore_n (lv' := [(2, .int bud), (0, .ref x), (1, .int bud)]) hx hb dX3_sendSome_18 rfl hl (by decide) rfl (fun ls hl => ?_)
  refine lv_iconst (v := nI 0) hx hb dX3_sendSome_19 (by decide) ?_
  refine lv_istore_n (lv' := [(3, .int (nI 0)), (2, .int bud), (0, .ref x), (1, .int bud)]) hx hb dX3_sendSome_20 rfl hl (by decide) rfl (fun ls hl => ?_)
  refine lp_loop (σ := hm_I × Int32) (fun i21 x21 => ∀ (H : Heap) (locs : List Loc) (ls : Array Slot), hm D T L A (recSh Sh h hs n) x21.1 J H → va_S A s_.heap H locs → lv_has ls 5 [(0, .ref x), (2, .int x21.2), (3, .int (nI i21))] → W p_ l e_ R s_ m_ args_ below_ meth_ c_ H locs 0 0 Qq (F0 m_ 21 ls [])) m0 (fun i21 x21 => (fX2_sendFirst_t x21.1 p (cS x21.1 p) (lcS x21.1 p) (kS x21.1 p), x21.2 - (x21.1 ((p + 4 + 5 * (kS x21.1 p)) + 3) 0))) ((recI I x p n hs c ec lc), bud) (fun (i21 : Nat) (x21 : hm_I × Int32) => WfSC x21.1 p ∧ Inv i21 x21) ⟨hB.2.1, hB.2.2.1⟩ (fun i x hi hv => ⟨hB.2.2.2.1 i x hi hv.1 hv.2, hB.2.2.2.2.1 i x hi hv.1 hv.2⟩) (fun i21 x21 hi2 hv3 k4 H locs ls hM hS hl => ?_) (fun hv3 H locs ls hM hS hl => ?_) _ _ _ hM hS (lv_sub hl [2, 1, 0] rfl)
  · have stp5 : ∀ yy_ : hm_I × Int32, yy_ = ((fX2_sendFirst_t x21.1 p (cS x21.1 p) (lcS x21.1 p) (kS x21.1 p), x21.2 - (x21.1 ((p + 4 + 5 * (kS x21.1 p)) + 3) 0))) → ∀ (H : Heap) (locs : List Loc) (ls : Array Slot), hm D T L A (recSh Sh h hs n) yy_.1 J H → va_S A s_.heap H locs → lv_has ls 5 [(0, .ref x), (2, .int yy_.2), (3, .int (nI (i21 + 1)))] → W p_ l e_ R s_ m_ args_ below_ meth_ c_ H locs 0 0 Qq (F0 m_ 21 ls []) := fun yy_ ey => by rw [ey]; exact k4
    have hok := hB.2.2.2.2.2.1 i21 x21 hi2 hv3.1 hv3.2
    have hok1 := hok.1
    have hok2 := hok.2.1
    have hfit := hB.2.2.2.2.2.2 i21 x21 hi2 hv3.1 hv3.2
    refine lv_iload_n hx hb dX3_sendSome_21 rfl (lv_at hl 2 rfl) ?_
    refine lv_bipush (v := nI 48) hx hb dX3_sendSome_22 (by decide) ?_
    refine mr_geN (x := i21) (y := 48) (tgt := 96) C0 dX3_sendSome_24 (by decide) (by omega) (by omega) (fun c6 => absurd c6 (by omega)) (fun c6 => ?_)
    refine lv_aload_n hx hb dX3_sendSome_27 rfl (lv_at hl 0 rfl) ?_
    refine mr_getr (r := p) (TT := TX3) (N := 7) C0 uX3_sendSome_X3 hM hX2.1.1 hX2.1.2 rfl 0 (by decide) rfl kX3_sendSome_f10 rfl dX3_sendSome_28 ?_
    refine mr_callV (As := []) C0 (ctX2_nextStream (I := x21.1) (J := J) (q := p) hX2.2.1 hv3.1) (cwV 0 C0.1.2.2.2.2 gX3_sendSome_X2_nextStream rfl rfl rfl (by decide +kernel) (by rw [hR]; exact ⟨Nat.le_of_ble_eq_true rfl, Nat.le_of_ble_eq_true rfl⟩)) hM hX2.2.1.1.1 hX2.2.1.1.2 rfl rfl hM hS rfl rfl rfl hl.1 (Nat.le_of_ble_eq_true rfl) dX3_sendSome_31 (by rw [hR]; exact ⟨Nat.zero_le _, Nat.zero_le _⟩) (fun H locs hM hS => ?_)
    refine lv_istore (lv' := [(4, .int (fX2_nextStream x21.1 p (cS x21.1 p) (eS x21.1 p))), (0, .ref x), (2, .int x21.2), (3, .int (nI i21))]) hx hb dX3_sendSome_34 hl (by decide) rfl (fun ls hl => ?_)
    refine lv_iload hx hb dX3_sendSome_36 (lv_at hl 0 rfl) ?_
    refine lv_bipush (v := (-9)) hx hb dX3_sendSome_38 (by decide) ?_
    refine lv_icmp_eq (tgt := 96) hx hb dX3_sendSome_40 (by decide) (fun c7 => absurd (hok.2.2.symm.trans c7) (nI_ne_m9 (by omega))) (fun c7 => ?_)
    refine lv_aload_n hx hb dX3_sendSome_43 rfl (lv_at hl 1 rfl) ?_
    refine mr_getr (r := p) (TT := TX3) (N := 7) C0 uX3_sendSome_X3 hM hX2.1.1 hX2.1.2 rfl 0 (by decide) rfl kX3_sendSome_f10 rfl dX3_sendSome_44 ?_
    refine mr_getr (r := p + 3) (TT := TX2) (N := 10) C0 uX3_sendSome_X2 hM hX2.2.1.1.1 hX2.2.1.1.2 rfl 3 (by decide) rfl kX3_sendSome_f65 rfl dX3_sendSome_47 ?_
    refine lv_iload hx hb dX3_sendSome_50 (lv_at hl 0 rfl) ?_
    refine mr_top (y := nI (kS x21.1 p)) hok.2.2 ?_
    refine mr_aald (t := 0) (C := RX0) (r := p + 4 + 5 * (kS x21.1 p)) C0 hM hX2.2.1.2.2.2.1.1 hX2.2.1.2.2.2.1.2 rfl (by decide) (by omega) rfl dX3_sendSome_52 ?_
    refine lv_iconst (v := nI 0) hx hb dX3_sendSome_53 (by decide) ?_
    have hw8 := hv3.1.1 (kS x21.1 p) (by omega)
    have hw8b := hw8.2
    refine mr_callV (As := [.int (nI 0)]) C0 (ctX0_sizeAt_t (I := x21.1) (J := J) (a := (p + 4 + 5 * (kS x21.1 p))) (k := 0) (hX2.2.1.2.2.2.2.1 _ (by omega)) hw8.1 (by omega) (by omega) (by omega)) (cwV 1 C0.1.2.2.2.2 gX3_sendSome_X0_sizeAt rfl rfl rfl (by decide +kernel) (by rw [hR]; exact ⟨Nat.le_of_ble_eq_true rfl, Nat.le_of_ble_eq_true rfl⟩)) hM (hX2.2.1.2.2.2.2.1 _ (by omega)).1.1 (hX2.2.1.2.2.2.2.1 _ (by omega)).1.2 rfl rfl hM hS rfl rfl rfl hl.1 (Nat.le_of_ble_eq_true rfl) dX3_sendSome_54 (by rw [hR]; exact ⟨Nat.zero_le _, Nat.zero_le _⟩) (fun H locs hM hS => ?_)
    refine lv_iload_n hx hb dX3_sendSome_57 rfl (lv_at hl 2 rfl) ?_
    refine lv_icmp_le (tgt := 64) hx hb dX3_sendSome_58 (by decide) (fun c9 => ?_) (fun c9 => absurd hfit c9)
    refine lv_iload_n hx hb dX3_sendSome_64 rfl (lv_at hl 2 rfl) ?_
    refine lv_aload_n hx hb dX3_sendSome_65 rfl (lv_at hl 1 rfl) ?_
    refine mr_getr (r := p) (TT := TX3) (N := 7) C0 uX3_sendSome_X3 hM hX2.1.1 hX2.1.2 rfl 0 (by decide) rfl kX3_sendSome_f10 rfl dX3_sendSome_66 ?_
    refine mr_getr (r := p + 3) (TT := TX2) (N := 10) C0 uX3_sendSome_X2 hM hX2.2.1.1.1 hX2.2.1.1.2 rfl 3 (by decide) rfl kX3_sendSome_f65 rfl dX3_sendSome_69 ?_
    refine lv_iload hx hb dX3_sendSome_72 (lv_at hl 0 rfl) ?_
    refine mr_top (y := nI (kS x21.1 p)) hok.2.2 ?_
    refine mr_aald (t := 0) (C := RX0) (r := p + 4 + 5 * (kS x21.1 p)) C0 hM hX2.2.1.2.2.2.1.1 hX2.2.1.2.2.2.1.2 rfl (by decide) (by omega) rfl dX3_sendSome_74 ?_
    refine lv_iconst (v := nI 0) hx hb dX3_sendSome_75 (by decide) ?_
    refine mr_callV (As := [.int (nI 0)]) C0 (ctX0_sizeAt_t (I := x21.1) (J := J) (a := (p + 4 + 5 * (kS x21.1 p))) (k := 0) (hX2.2.1.2.2.2.2.1 _ (by omega)) hw8.1 (by omega) (by omega) (by omega)) (cwV 1 C0.1.2.2.2.2 gX3_sendSome_X0_sizeAt rfl rfl rfl (by decide +kernel) (by rw [hR]; exact ⟨Nat.le_of_ble_eq_true rfl, Nat.le_of_ble_eq_true rfl⟩)) hM (hX2.2.1.2.2.2.2.1 _ (by omega)).1.1 (hX2.2.1.2.2.2.2.1 _ (by omega)).1.2 rfl rfl hM hS rfl rfl rfl hl.1 (Nat.le_of_ble_eq_true rfl) dX3_sendSome_76 (by rw [hR]; exact ⟨Nat.zero_le _, Nat.zero_le _⟩) (fun H locs hM hS => ?_)
    refine lv_isub hx hb dX3_sendSome_79 ?_
    refine lv_istore_n (lv' := [(2, .int (x21.2 - (x21.1 ((p + 4 + 5 * (kS x21.1 p)) + 3) 0))), (4, .int (fX2_nextStream x21.1 p (cS x21.1 p) (eS x21.1 p))), (0, .ref x), (3, .int (nI i21))]) hx hb dX3_sendSome_80 rfl hl (by decide) rfl (fun ls hl => ?_)
    refine lv_aload_n hx hb dX3_sendSome_81 rfl (lv_at hl 2 rfl) ?_
    refine mr_getr (r := p) (TT := TX3) (N := 7) C0 uX3_sendSome_X3 hM hX2.1.1 hX2.1.2 rfl 0 (by decide) rfl kX3_sendSome_f10 rfl dX3_sendSome_82 ?_
    refine lv_iload hx hb dX3_sendSome_85 (lv_at hl 1 rfl) ?_
    refine mr_top (y := nI (kS x21.1 p)) hok.2.2 ?_
    refine mr_callV (As := [.int (nI (kS x21.1 p))]) C0 (ctX2_sendFirst_t (I := x21.1) (J := J) (q := p) (s0 := (kS x21.1 p)) hX2.2.1 hv3.1 (by omega) (by omega)) (cwV 1 C0.1.2.2.2.2 gX3_sendSome_X2_sendFirst rfl rfl rfl (by decide +kernel) (by rw [hR]; exact ⟨Nat.le_of_ble_eq_true rfl, Nat.le_of_ble_eq_true rfl⟩)) hM hX2.2.1.1.1 hX2.2.1.1.2 rfl rfl hM hS rfl rfl rfl hl.1 (Nat.le_of_ble_eq_true rfl) dX3_sendSome_87 (by rw [hR]; exact ⟨Nat.zero_le _, Nat.zero_le _⟩) (fun H locs hM hS => ?_)
    refine lv_iinc (v := nI (i21 + 1)) (lv' := [(3, .int (nI (i21 + 1))), (2, .int (x21.2 - (x21.1 ((p + 4 + 5 * (kS x21.1 p)) + 3) 0))), (4, .int (fX2_nextStream x21.1 p (cS x21.1 p) (eS x21.1 p))), (0, .ref x)]) hx hb dX3_sendSome_90 hl (k := 3) rfl (nI_1 _) (by decide) rfl (fun ls hl => ?_)
    refine lv_goto (tgt := 21) hx hb dX3_sendSome_93 (by decide) ?_
    exact stp5 (fX2_sendFirst_t x21.1 p (cS x21.1 p) (lcS x21.1 p) (kS x21.1 p), x21.2 - (x21.1 ((p + 4 + 5 * (kS x21.1 p)) + 3) 0)) rfl H locs ls hM hS (lv_sub hl [3, 1, 0] rfl)
  · skip
    have hE := hEnd.2 _ hv3.1 hv3.2
    have hm := hEnd.1
    refine lv_iload_n hx hb dX3_sendSome_21 rfl (lv_at hl 2 rfl) ?_
    refine lv_bipush (v := nI 48) hx hb dX3_sendSome_22 (by decide) ?_
    refine mr_geN (x := m0) (y := 48) (tgt := 96) C0 dX3_sendSome_24 (by decide) (by omega) (by omega) (fun c10 => absurd c10 (by omega)) (fun c10 => ?_)
    refine lv_aload_n hx hb dX3_sendSome_27 rfl (lv_at hl 0 rfl) ?_
    refine mr_getr (r := p) (TT := TX3) (N := 7) C0 uX3_sendSome_X3 hM hX2.1.1 hX2.1.2 rfl 0 (by decide) rfl kX3_sendSome_f10 rfl dX3_sendSome_28 ?_
    refine mr_callV (As := []) C0 (ctX2_nextStream (I := ((lp m0 (fun i21 x21 => (fX2_sendFirst_t x21.1 p (cS x21.1 p) (lcS x21.1 p) (kS x21.1 p), x21.2 - (x21.1 ((p + 4 + 5 * (kS x21.1 p)) + 3) 0))) ((recI I x p n hs c ec lc), bud)).1)) (J := J) (q := p) hX2.2.1 hv3.1) (cwV 0 C0.1.2.2.2.2 gX3_sendSome_X2_nextStream rfl rfl rfl (by decide +kernel) (by rw [hR]; exact ⟨Nat.le_of_ble_eq_true rfl, Nat.le_of_ble_eq_true rfl⟩)) hM hX2.2.1.1.1 hX2.2.1.1.2 rfl rfl hM hS rfl rfl rfl hl.1 (Nat.le_of_ble_eq_true rfl) dX3_sendSome_31 (by rw [hR]; exact ⟨Nat.zero_le _, Nat.zero_le _⟩) (fun H locs hM hS => ?_)
    refine lv_istore (lv' := [(4, .int (fX2_nextStream ((lp m0 (fun i21 x21 => (fX2_sendFirst_t x21.1 p (cS x21.1 p) (lcS x21.1 p) (kS x21.1 p), x21.2 - (x21.1 ((p + 4 + 5 * (kS x21.1 p)) + 3) 0))) ((recI I x p n hs c ec lc), bud)).1) p (cS ((lp m0 (fun i21 x21 => (fX2_sendFirst_t x21.1 p (cS x21.1 p) (lcS x21.1 p) (kS x21.1 p), x21.2 - (x21.1 ((p + 4 + 5 * (kS x21.1 p)) + 3) 0))) ((recI I x p n hs c ec lc), bud)).1) p) (eS ((lp m0 (fun i21 x21 => (fX2_sendFirst_t x21.1 p (cS x21.1 p) (lcS x21.1 p) (kS x21.1 p), x21.2 - (x21.1 ((p + 4 + 5 * (kS x21.1 p)) + 3) 0))) ((recI I x p n hs c ec lc), bud)).1) p))), (0, .ref x), (2, .int ((lp m0 (fun i21 x21 => (fX2_sendFirst_t x21.1 p (cS x21.1 p) (lcS x21.1 p) (kS x21.1 p), x21.2 - (x21.1 ((p + 4 + 5 * (kS x21.1 p)) + 3) 0))) ((recI I x p n hs c ec lc), bud)).2)), (3, .int (nI m0))]) hx hb dX3_sendSome_34 hl (by decide) rfl (fun ls hl => ?_)
    refine lv_iload hx hb dX3_sendSome_36 (lv_at hl 0 rfl) ?_
    refine lv_bipush (v := (-9)) hx hb dX3_sendSome_38 (by decide) ?_
    refine lv_icmp_eq (tgt := 96) hx hb dX3_sendSome_40 (by decide) (fun c11 => ?_) (fun c11 => absurd hE c11)
    refine lv_iload_n hx hb dX3_sendSome_96 rfl (lv_at hl 3 rfl) ?_
    have eF : (nI m0, (lp m0 (fun i21 x21 => (fX2_sendFirst_t x21.1 p (cS x21.1 p) (lcS x21.1 p) (kS x21.1 p), x21.2 - (x21.1 ((p + 4 + 5 * (kS x21.1 p)) + 3) 0))) ((recI I x p n hs c ec lc), bud)).1) = fX3_sendSome_tA I x p n hs c ec lc m0 bud := rfl
    exact mr_iret (v := nI m0) C0 hr hlk hQ hS (by rw [← eF]) (by rw [← eF]; exact hM) (Nat.le_refl _) (Nat.le_refl _) dX3_sendSome_97
def fX3_sendSome_tB (I : hm_I) (x p n : Nat) (hs c : Nat → Nat) (ec lc : Nat) (m0 : Nat) (bud : Int32) : Int32 × hm_I :=
  (nI m0, (lp m0 (fun i21 x21 => (fX2_sendFirst_t x21.1 p (cS x21.1 p) (lcS x21.1 p) (kS x21.1 p), x21.2 - (x21.1 ((p + 4 + 5 * (kS x21.1 p)) + 3) 0))) ((recI I x p n hs c ec lc), bud)).1)
set_option maxHeartbeats 4000000 in
set_option maxRecDepth 100000 in
theorem ctX3_sendSome_tB {l : Launch} {D : va_G} {T : Nat → ClassId} {L : List Nat} {A : Nat → Prop} {Sh : hm_S} {I : hm_I} {J : hm_J} {x p f h m k j : Nat} {hs im : Nat → Nat} (hX : IsX L Sh x p f h m k j hs im) (hA : ApX x p f h m k j hs im) {c : Nat → Nat} {e : Nat → Nat → Nat} {ec lc : Nat} (hW : WfS I p c e ec lc) {n : Nat} (hn : I x 3 = nI n) (hn8 : n ≤ 8) {bud : Int32} {m0 : Nat} {Inv : Nat → hm_I × Int32 → Prop} (hw0 : fX3_isWithin bud (nI 0) (nI 999) = true) (hB : SomeS (recI I x p n hs c ec lc) p m0 bud Inv) (hEnd : endSB p m0 Inv) :
    Ct l yX3_sendSome wsX3_sendSome { frames := 5, cells := 0, slots := 0, locals := 111 } 0 0 D T A [.ref x, .int bud] (hm D T L A Sh I J) (some (.int ((fX3_sendSome_tB I x p n hs c ec lc m0 bud).1))) (hm D T L A (recSh Sh h hs n) ((fX3_sendSome_tB I x p n hs c ec lc m0 bud).2) J) := by
  refine Ct.ofW (cc := cX3_sendSome) (maxL := 5) (ret := (some .int)) (by decide) rfl (Nat.le_of_ble_eq_true rfl) ?_
  intro p_ e_ s_ m_ args_ below_ meth_ c_ ls R Qq hR hQ C0 hr hlk hname hM hl
  have hx := C0.1.1
  have hb := C0.1.2.1
  have hS : va_S A s_.heap s_.heap [] := va_S.rf
  have hl : lv_has ls 5 [(0, .ref x), (1, .int bud)] := hl
  have hec10 := hW.2.2.2.2.1
  have hec1 := hW.2.2.2.1
  have hm48 := hB.1
  refine lv_iload_n hx hb dX3_sendSome_0 rfl (lv_at hl 1 rfl) ?_
  refine lv_iconst (v := nI 0) hx hb dX3_sendSome_1 (by decide) ?_
  refine lv_sipush (v := nI 999) hx hb dX3_sendSome_2 (by decide) ?_
  refine mr_callS (As := [.int bud, .int (nI 0), .int (nI 999)]) C0 (ctX3_isWithin (I := I) (J := J) (v := bud) (lo := (nI 0)) (up := (nI 999)) ) (va_cwS 3 C0.1.2.2.2.2 gX3_sendSome_X3_isWithin rfl rfl rfl (by decide +kernel) (by rw [hR]; exact ⟨Nat.le_of_ble_eq_true rfl, Nat.le_of_ble_eq_true rfl⟩)) hM hS rfl rfl rfl hl.1 (Nat.le_of_ble_eq_true rfl) dX3_sendSome_5 (by rw [hR]; exact ⟨Nat.zero_le _, Nat.zero_le _⟩) (fun H locs hM hS => ?_)
  refine mr_neB (tgt := 13) C0 dX3_sendSome_8 (by decide) (fun c1 => ?_) (fun c1 => absurd c1 (by rw [hw0]; decide))
  refine lv_aload_n hx hb dX3_sendSome_13 rfl (lv_at hl 0 rfl) ?_
  refine mr_callV (As := []) C0 (ctX3_record (I := I) (J := J) hX hA hW hn (by omega)) (cwV 0 C0.1.2.2.2.2 gX3_sendSome_X3_record rfl rfl rfl (by decide +kernel) (by rw [hR]; exact ⟨Nat.le_of_ble_eq_true rfl, Nat.le_of_ble_eq_true rfl⟩)) hM hX.1.1 hX.1.2 rfl rfl hM hS rfl rfl rfl hl.1 (Nat.le_of_ble_eq_true rfl) dX3_sendSome_14 (by rw [hR]; exact ⟨Nat.zero_le _, Nat.zero_le _⟩) (fun H locs hM hS => ?_)
  have hX2 := IsX_rec (n := n) hX hA
  refine lv_iload_n hx hb dX3_sendSome_17 rfl (lv_at hl 1 rfl) ?_
  refine lv_istore_n (lv' := [(2, .int bud), (0, .ref x), (1, .int bud)]) hx hb dX3_sendSome_18 rfl hl (by decide) rfl (fun ls hl => ?_)
  refine lv_iconst (v := nI 0) hx hb dX3_sendSome_19 (by decide) ?_
  refine lv_istore_n (lv' := [(3, .int (nI 0)), (2, .int bud), (0, .ref x), (1, .int bud)]) hx hb dX3_sendSome_20 rfl hl (by decide) rfl (fun ls hl => ?_)
  refine lp_loop (σ := hm_I × Int32) (fun i21 x21 => ∀ (H : Heap) (locs : List Loc) (ls : Array Slot), hm D T L A (recSh Sh h hs n) x21.1 J H → va_S A s_.heap H locs → lv_has ls 5 [(0, .ref x), (2, .int x21.2), (3, .int (nI i21))] → W p_ l e_ R s_ m_ args_ below_ meth_ c_ H locs 0 0 Qq (F0 m_ 21 ls [])) m0 (fun i21 x21 => (fX2_sendFirst_t x21.1 p (cS x21.1 p) (lcS x21.1 p) (kS x21.1 p), x21.2 - (x21.1 ((p + 4 + 5 * (kS x21.1 p)) + 3) 0))) ((recI I x p n hs c ec lc), bud) (fun (i21 : Nat) (x21 : hm_I × Int32) => WfSC x21.1 p ∧ Inv i21 x21) ⟨hB.2.1, hB.2.2.1⟩ (fun i x hi hv => ⟨hB.2.2.2.1 i x hi hv.1 hv.2, hB.2.2.2.2.1 i x hi hv.1 hv.2⟩) (fun i21 x21 hi2 hv3 k4 H locs ls hM hS hl => ?_) (fun hv3 H locs ls hM hS hl => ?_) _ _ _ hM hS (lv_sub hl [2, 1, 0] rfl)
  · have stp5 : ∀ yy_ : hm_I × Int32, yy_ = ((fX2_sendFirst_t x21.1 p (cS x21.1 p) (lcS x21.1 p) (kS x21.1 p), x21.2 - (x21.1 ((p + 4 + 5 * (kS x21.1 p)) + 3) 0))) → ∀ (H : Heap) (locs : List Loc) (ls : Array Slot), hm D T L A (recSh Sh h hs n) yy_.1 J H → va_S A s_.heap H locs → lv_has ls 5 [(0, .ref x), (2, .int yy_.2), (3, .int (nI (i21 + 1)))] → W p_ l e_ R s_ m_ args_ below_ meth_ c_ H locs 0 0 Qq (F0 m_ 21 ls []) := fun yy_ ey => by rw [ey]; exact k4
    have hok := hB.2.2.2.2.2.1 i21 x21 hi2 hv3.1 hv3.2
    have hok1 := hok.1
    have hok2 := hok.2.1
    have hfit := hB.2.2.2.2.2.2 i21 x21 hi2 hv3.1 hv3.2
    refine lv_iload_n hx hb dX3_sendSome_21 rfl (lv_at hl 2 rfl) ?_
    refine lv_bipush (v := nI 48) hx hb dX3_sendSome_22 (by decide) ?_
    refine mr_geN (x := i21) (y := 48) (tgt := 96) C0 dX3_sendSome_24 (by decide) (by omega) (by omega) (fun c6 => absurd c6 (by omega)) (fun c6 => ?_)
    refine lv_aload_n hx hb dX3_sendSome_27 rfl (lv_at hl 0 rfl) ?_
    refine mr_getr (r := p) (TT := TX3) (N := 7) C0 uX3_sendSome_X3 hM hX2.1.1 hX2.1.2 rfl 0 (by decide) rfl kX3_sendSome_f10 rfl dX3_sendSome_28 ?_
    refine mr_callV (As := []) C0 (ctX2_nextStream (I := x21.1) (J := J) (q := p) hX2.2.1 hv3.1) (cwV 0 C0.1.2.2.2.2 gX3_sendSome_X2_nextStream rfl rfl rfl (by decide +kernel) (by rw [hR]; exact ⟨Nat.le_of_ble_eq_true rfl, Nat.le_of_ble_eq_true rfl⟩)) hM hX2.2.1.1.1 hX2.2.1.1.2 rfl rfl hM hS rfl rfl rfl hl.1 (Nat.le_of_ble_eq_true rfl) dX3_sendSome_31 (by rw [hR]; exact ⟨Nat.zero_le _, Nat.zero_le _⟩) (fun H locs hM hS => ?_)
    refine lv_istore (lv' := [(4, .int (fX2_nextStream x21.1 p (cS x21.1 p) (eS x21.1 p))), (0, .ref x), (2, .int x21.2), (3, .int (nI i21))]) hx hb dX3_sendSome_34 hl (by decide) rfl (fun ls hl => ?_)
    refine lv_iload hx hb dX3_sendSome_36 (lv_at hl 0 rfl) ?_
    refine lv_bipush (v := (-9)) hx hb dX3_sendSome_38 (by decide) ?_
    refine lv_icmp_eq (tgt := 96) hx hb dX3_sendSome_40 (by decide) (fun c7 => absurd (hok.2.2.symm.trans c7) (nI_ne_m9 (by omega))) (fun c7 => ?_)
    refine lv_aload_n hx hb dX3_sendSome_43 rfl (lv_at hl 1 rfl) ?_
    refine mr_getr (r := p) (TT := TX3) (N := 7) C0 uX3_sendSome_X3 hM hX2.1.1 hX2.1.2 rfl 0 (by decide) rfl kX3_sendSome_f10 rfl dX3_sendSome_44 ?_
    refine mr_getr (r := p + 3) (TT := TX2) (N := 10) C0 uX3_sendSome_X2 hM hX2.2.1.1.1 hX2.2.1.1.2 rfl 3 (by decide) rfl kX3_sendSome_f65 rfl dX3_sendSome_47 ?_
    refine lv_iload hx hb dX3_sendSome_50 (lv_at hl 0 rfl) ?_
    refine mr_top (y := nI (kS x21.1 p)) hok.2.2 ?_
    refine mr_aald (t := 0) (C := RX0) (r := p + 4 + 5 * (kS x21.1 p)) C0 hM hX2.2.1.2.2.2.1.1 hX2.2.1.2.2.2.1.2 rfl (by decide) (by omega) rfl dX3_sendSome_52 ?_
    refine lv_iconst (v := nI 0) hx hb dX3_sendSome_53 (by decide) ?_
    have hw8 := hv3.1.1 (kS x21.1 p) (by omega)
    have hw8b := hw8.2
    refine mr_callV (As := [.int (nI 0)]) C0 (ctX0_sizeAt_t (I := x21.1) (J := J) (a := (p + 4 + 5 * (kS x21.1 p))) (k := 0) (hX2.2.1.2.2.2.2.1 _ (by omega)) hw8.1 (by omega) (by omega) (by omega)) (cwV 1 C0.1.2.2.2.2 gX3_sendSome_X0_sizeAt rfl rfl rfl (by decide +kernel) (by rw [hR]; exact ⟨Nat.le_of_ble_eq_true rfl, Nat.le_of_ble_eq_true rfl⟩)) hM (hX2.2.1.2.2.2.2.1 _ (by omega)).1.1 (hX2.2.1.2.2.2.2.1 _ (by omega)).1.2 rfl rfl hM hS rfl rfl rfl hl.1 (Nat.le_of_ble_eq_true rfl) dX3_sendSome_54 (by rw [hR]; exact ⟨Nat.zero_le _, Nat.zero_le _⟩) (fun H locs hM hS => ?_)
    refine lv_iload_n hx hb dX3_sendSome_57 rfl (lv_at hl 2 rfl) ?_
    refine lv_icmp_le (tgt := 64) hx hb dX3_sendSome_58 (by decide) (fun c9 => ?_) (fun c9 => absurd hfit c9)
    refine lv_iload_n hx hb dX3_sendSome_64 rfl (lv_at hl 2 rfl) ?_
    refine lv_aload_n hx hb dX3_sendSome_65 rfl (lv_at hl 1 rfl) ?_
    refine mr_getr (r := p) (TT := TX3) (N := 7) C0 uX3_sendSome_X3 hM hX2.1.1 hX2.1.2 rfl 0 (by decide) rfl kX3_sendSome_f10 rfl dX3_sendSome_66 ?_
    refine mr_getr (r := p + 3) (TT := TX2) (N := 10) C0 uX3_sendSome_X2 hM hX2.2.1.1.1 hX2.2.1.1.2 rfl 3 (by decide) rfl kX3_sendSome_f65 rfl dX3_sendSome_69 ?_
    refine lv_iload hx hb dX3_sendSome_72 (lv_at hl 0 rfl) ?_
    refine mr_top (y := nI (kS x21.1 p)) hok.2.2 ?_
    refine mr_aald (t := 0) (C := RX0) (r := p + 4 + 5 * (kS x21.1 p)) C0 hM hX2.2.1.2.2.2.1.1 hX2.2.1.2.2.2.1.2 rfl (by decide) (by omega) rfl dX3_sendSome_74 ?_
    refine lv_iconst (v := nI 0) hx hb dX3_sendSome_75 (by decide) ?_
    refine mr_callV (As := [.int (nI 0)]) C0 (ctX0_sizeAt_t (I := x21.1) (J := J) (a := (p + 4 + 5 * (kS x21.1 p))) (k := 0) (hX2.2.1.2.2.2.2.1 _ (by omega)) hw8.1 (by omega) (by omega) (by omega)) (cwV 1 C0.1.2.2.2.2 gX3_sendSome_X0_sizeAt rfl rfl rfl (by decide +kernel) (by rw [hR]; exact ⟨Nat.le_of_ble_eq_true rfl, Nat.le_of_ble_eq_true rfl⟩)) hM (hX2.2.1.2.2.2.2.1 _ (by omega)).1.1 (hX2.2.1.2.2.2.2.1 _ (by omega)).1.2 rfl rfl hM hS rfl rfl rfl hl.1 (Nat.le_of_ble_eq_true rfl) dX3_sendSome_76 (by rw [hR]; exact ⟨Nat.zero_le _, Nat.zero_le _⟩) (fun H locs hM hS => ?_)
    refine lv_isub hx hb dX3_sendSome_79 ?_
    refine lv_istore_n (lv' := [(2, .int (x21.2 - (x21.1 ((p + 4 + 5 * (kS x21.1 p)) + 3) 0))), (4, .int (fX2_nextStream x21.1 p (cS x21.1 p) (eS x21.1 p))), (0, .ref x), (3, .int (nI i21))]) hx hb dX3_sendSome_80 rfl hl (by decide) rfl (fun ls hl => ?_)
    refine lv_aload_n hx hb dX3_sendSome_81 rfl (lv_at hl 2 rfl) ?_
    refine mr_getr (r := p) (TT := TX3) (N := 7) C0 uX3_sendSome_X3 hM hX2.1.1 hX2.1.2 rfl 0 (by decide) rfl kX3_sendSome_f10 rfl dX3_sendSome_82 ?_
    refine lv_iload hx hb dX3_sendSome_85 (lv_at hl 1 rfl) ?_
    refine mr_top (y := nI (kS x21.1 p)) hok.2.2 ?_
    refine mr_callV (As := [.int (nI (kS x21.1 p))]) C0 (ctX2_sendFirst_t (I := x21.1) (J := J) (q := p) (s0 := (kS x21.1 p)) hX2.2.1 hv3.1 (by omega) (by omega)) (cwV 1 C0.1.2.2.2.2 gX3_sendSome_X2_sendFirst rfl rfl rfl (by decide +kernel) (by rw [hR]; exact ⟨Nat.le_of_ble_eq_true rfl, Nat.le_of_ble_eq_true rfl⟩)) hM hX2.2.1.1.1 hX2.2.1.1.2 rfl rfl hM hS rfl rfl rfl hl.1 (Nat.le_of_ble_eq_true rfl) dX3_sendSome_87 (by rw [hR]; exact ⟨Nat.zero_le _, Nat.zero_le _⟩) (fun H locs hM hS => ?_)
    refine lv_iinc (v := nI (i21 + 1)) (lv' := [(3, .int (nI (i21 + 1))), (2, .int (x21.2 - (x21.1 ((p + 4 + 5 * (kS x21.1 p)) + 3) 0))), (4, .int (fX2_nextStream x21.1 p (cS x21.1 p) (eS x21.1 p))), (0, .ref x)]) hx hb dX3_sendSome_90 hl (k := 3) rfl (nI_1 _) (by decide) rfl (fun ls hl => ?_)
    refine lv_goto (tgt := 21) hx hb dX3_sendSome_93 (by decide) ?_
    exact stp5 (fX2_sendFirst_t x21.1 p (cS x21.1 p) (lcS x21.1 p) (kS x21.1 p), x21.2 - (x21.1 ((p + 4 + 5 * (kS x21.1 p)) + 3) 0)) rfl H locs ls hM hS (lv_sub hl [3, 1, 0] rfl)
  · skip
    have hE := hEnd.2 _ hv3.1 hv3.2
    have hm := hEnd.1
    have hok := hE.1
    have hok1 := hok.1
    have hok2 := hok.2.1
    refine lv_iload_n hx hb dX3_sendSome_21 rfl (lv_at hl 2 rfl) ?_
    refine lv_bipush (v := nI 48) hx hb dX3_sendSome_22 (by decide) ?_
    refine mr_geN (x := m0) (y := 48) (tgt := 96) C0 dX3_sendSome_24 (by decide) (by omega) (by omega) (fun c10 => absurd c10 (by omega)) (fun c10 => ?_)
    refine lv_aload_n hx hb dX3_sendSome_27 rfl (lv_at hl 0 rfl) ?_
    refine mr_getr (r := p) (TT := TX3) (N := 7) C0 uX3_sendSome_X3 hM hX2.1.1 hX2.1.2 rfl 0 (by decide) rfl kX3_sendSome_f10 rfl dX3_sendSome_28 ?_
    refine mr_callV (As := []) C0 (ctX2_nextStream (I := ((lp m0 (fun i21 x21 => (fX2_sendFirst_t x21.1 p (cS x21.1 p) (lcS x21.1 p) (kS x21.1 p), x21.2 - (x21.1 ((p + 4 + 5 * (kS x21.1 p)) + 3) 0))) ((recI I x p n hs c ec lc), bud)).1)) (J := J) (q := p) hX2.2.1 hv3.1) (cwV 0 C0.1.2.2.2.2 gX3_sendSome_X2_nextStream rfl rfl rfl (by decide +kernel) (by rw [hR]; exact ⟨Nat.le_of_ble_eq_true rfl, Nat.le_of_ble_eq_true rfl⟩)) hM hX2.2.1.1.1 hX2.2.1.1.2 rfl rfl hM hS rfl rfl rfl hl.1 (Nat.le_of_ble_eq_true rfl) dX3_sendSome_31 (by rw [hR]; exact ⟨Nat.zero_le _, Nat.zero_le _⟩) (fun H locs hM hS => ?_)
    refine lv_istore (lv' := [(4, .int (fX2_nextStream ((lp m0 (fun i21 x21 => (fX2_sendFirst_t x21.1 p (cS x21.1 p) (lcS x21.1 p) (kS x21.1 p), x21.2 - (x21.1 ((p + 4 + 5 * (kS x21.1 p)) + 3) 0))) ((recI I x p n hs c ec lc), bud)).1) p (cS ((lp m0 (fun i21 x21 => (fX2_sendFirst_t x21.1 p (cS x21.1 p) (lcS x21.1 p) (kS x21.1 p), x21.2 - (x21.1 ((p + 4 + 5 * (kS x21.1 p)) + 3) 0))) ((recI I x p n hs c ec lc), bud)).1) p) (eS ((lp m0 (fun i21 x21 => (fX2_sendFirst_t x21.1 p (cS x21.1 p) (lcS x21.1 p) (kS x21.1 p), x21.2 - (x21.1 ((p + 4 + 5 * (kS x21.1 p)) + 3) 0))) ((recI I x p n hs c ec lc), bud)).1) p))), (0, .ref x), (2, .int ((lp m0 (fun i21 x21 => (fX2_sendFirst_t x21.1 p (cS x21.1 p) (lcS x21.1 p) (kS x21.1 p), x21.2 - (x21.1 ((p + 4 + 5 * (kS x21.1 p)) + 3) 0))) ((recI I x p n hs c ec lc), bud)).2)), (3, .int (nI m0))]) hx hb dX3_sendSome_34 hl (by decide) rfl (fun ls hl => ?_)
    refine lv_iload hx hb dX3_sendSome_36 (lv_at hl 0 rfl) ?_
    refine lv_bipush (v := (-9)) hx hb dX3_sendSome_38 (by decide) ?_
    refine lv_icmp_eq (tgt := 96) hx hb dX3_sendSome_40 (by decide) (fun c11 => absurd (hok.2.2.symm.trans c11) (nI_ne_m9 (by omega))) (fun c11 => ?_)
    refine lv_aload_n hx hb dX3_sendSome_43 rfl (lv_at hl 1 rfl) ?_
    refine mr_getr (r := p) (TT := TX3) (N := 7) C0 uX3_sendSome_X3 hM hX2.1.1 hX2.1.2 rfl 0 (by decide) rfl kX3_sendSome_f10 rfl dX3_sendSome_44 ?_
    refine mr_getr (r := p + 3) (TT := TX2) (N := 10) C0 uX3_sendSome_X2 hM hX2.2.1.1.1 hX2.2.1.1.2 rfl 3 (by decide) rfl kX3_sendSome_f65 rfl dX3_sendSome_47 ?_
    refine lv_iload hx hb dX3_sendSome_50 (lv_at hl 0 rfl) ?_
    refine mr_top (y := nI (kS ((lp m0 (fun i21 x21 => (fX2_sendFirst_t x21.1 p (cS x21.1 p) (lcS x21.1 p) (kS x21.1 p), x21.2 - (x21.1 ((p + 4 + 5 * (kS x21.1 p)) + 3) 0))) ((recI I x p n hs c ec lc), bud)).1) p)) hok.2.2 ?_
    refine mr_aald (t := 0) (C := RX0) (r := p + 4 + 5 * (kS ((lp m0 (fun i21 x21 => (fX2_sendFirst_t x21.1 p (cS x21.1 p) (lcS x21.1 p) (kS x21.1 p), x21.2 - (x21.1 ((p + 4 + 5 * (kS x21.1 p)) + 3) 0))) ((recI I x p n hs c ec lc), bud)).1) p)) C0 hM hX2.2.1.2.2.2.1.1 hX2.2.1.2.2.2.1.2 rfl (by decide) (by omega) rfl dX3_sendSome_52 ?_
    refine lv_iconst (v := nI 0) hx hb dX3_sendSome_53 (by decide) ?_
    have hw12 := hv3.1.1 (kS ((lp m0 (fun i21 x21 => (fX2_sendFirst_t x21.1 p (cS x21.1 p) (lcS x21.1 p) (kS x21.1 p), x21.2 - (x21.1 ((p + 4 + 5 * (kS x21.1 p)) + 3) 0))) ((recI I x p n hs c ec lc), bud)).1) p) (by omega)
    have hw12b := hw12.2
    refine mr_callV (As := [.int (nI 0)]) C0 (ctX0_sizeAt_t (I := ((lp m0 (fun i21 x21 => (fX2_sendFirst_t x21.1 p (cS x21.1 p) (lcS x21.1 p) (kS x21.1 p), x21.2 - (x21.1 ((p + 4 + 5 * (kS x21.1 p)) + 3) 0))) ((recI I x p n hs c ec lc), bud)).1)) (J := J) (a := (p + 4 + 5 * (kS ((lp m0 (fun i21 x21 => (fX2_sendFirst_t x21.1 p (cS x21.1 p) (lcS x21.1 p) (kS x21.1 p), x21.2 - (x21.1 ((p + 4 + 5 * (kS x21.1 p)) + 3) 0))) ((recI I x p n hs c ec lc), bud)).1) p))) (k := 0) (hX2.2.1.2.2.2.2.1 _ (by omega)) hw12.1 (by omega) (by omega) (by omega)) (cwV 1 C0.1.2.2.2.2 gX3_sendSome_X0_sizeAt rfl rfl rfl (by decide +kernel) (by rw [hR]; exact ⟨Nat.le_of_ble_eq_true rfl, Nat.le_of_ble_eq_true rfl⟩)) hM (hX2.2.1.2.2.2.2.1 _ (by omega)).1.1 (hX2.2.1.2.2.2.2.1 _ (by omega)).1.2 rfl rfl hM hS rfl rfl rfl hl.1 (Nat.le_of_ble_eq_true rfl) dX3_sendSome_54 (by rw [hR]; exact ⟨Nat.zero_le _, Nat.zero_le _⟩) (fun H locs hM hS => ?_)
    refine lv_iload_n hx hb dX3_sendSome_57 rfl (lv_at hl 2 rfl) ?_
    refine lv_icmp_le (tgt := 64) hx hb dX3_sendSome_58 (by decide) (fun c13 => absurd c13 hE.2) (fun c13 => ?_)
    refine lv_goto (tgt := 96) hx hb dX3_sendSome_61 (by decide) ?_
    refine lv_iload_n hx hb dX3_sendSome_96 rfl (lv_at hl 3 rfl) ?_
    have eF : (nI m0, (lp m0 (fun i21 x21 => (fX2_sendFirst_t x21.1 p (cS x21.1 p) (lcS x21.1 p) (kS x21.1 p), x21.2 - (x21.1 ((p + 4 + 5 * (kS x21.1 p)) + 3) 0))) ((recI I x p n hs c ec lc), bud)).1) = fX3_sendSome_tB I x p n hs c ec lc m0 bud := rfl
    exact mr_iret (v := nI m0) C0 hr hlk hQ hS (by rw [← eF]) (by rw [← eF]; exact hM) (Nat.le_refl _) (Nat.le_refl _) dX3_sendSome_97
def fX3_sendSome_tC (I : hm_I) (x p n : Nat) (hs c : Nat → Nat) (ec lc : Nat) (m0 : Nat) (bud : Int32) : Int32 × hm_I :=
  (nI m0, (lp m0 (fun i21 x21 => (fX2_sendFirst_t x21.1 p (cS x21.1 p) (lcS x21.1 p) (kS x21.1 p), x21.2 - (x21.1 ((p + 4 + 5 * (kS x21.1 p)) + 3) 0))) ((recI I x p n hs c ec lc), bud)).1)
set_option maxHeartbeats 4000000 in
set_option maxRecDepth 100000 in
theorem ctX3_sendSome_tC {l : Launch} {D : va_G} {T : Nat → ClassId} {L : List Nat} {A : Nat → Prop} {Sh : hm_S} {I : hm_I} {J : hm_J} {x p f h m k j : Nat} {hs im : Nat → Nat} (hX : IsX L Sh x p f h m k j hs im) (hA : ApX x p f h m k j hs im) {c : Nat → Nat} {e : Nat → Nat → Nat} {ec lc : Nat} (hW : WfS I p c e ec lc) {n : Nat} (hn : I x 3 = nI n) (hn8 : n ≤ 8) {bud : Int32} {m0 : Nat} {Inv : Nat → hm_I × Int32 → Prop} (hw0 : fX3_isWithin bud (nI 0) (nI 999) = true) (hB : SomeS (recI I x p n hs c ec lc) p m0 bud Inv) (hEnd : endSC m0) :
    Ct l yX3_sendSome wsX3_sendSome { frames := 5, cells := 0, slots := 0, locals := 111 } 0 0 D T A [.ref x, .int bud] (hm D T L A Sh I J) (some (.int ((fX3_sendSome_tC I x p n hs c ec lc m0 bud).1))) (hm D T L A (recSh Sh h hs n) ((fX3_sendSome_tC I x p n hs c ec lc m0 bud).2) J) := by
  refine Ct.ofW (cc := cX3_sendSome) (maxL := 5) (ret := (some .int)) (by decide) rfl (Nat.le_of_ble_eq_true rfl) ?_
  intro p_ e_ s_ m_ args_ below_ meth_ c_ ls R Qq hR hQ C0 hr hlk hname hM hl
  have hx := C0.1.1
  have hb := C0.1.2.1
  have hS : va_S A s_.heap s_.heap [] := va_S.rf
  have hl : lv_has ls 5 [(0, .ref x), (1, .int bud)] := hl
  have hec10 := hW.2.2.2.2.1
  have hec1 := hW.2.2.2.1
  have hm48 := hB.1
  refine lv_iload_n hx hb dX3_sendSome_0 rfl (lv_at hl 1 rfl) ?_
  refine lv_iconst (v := nI 0) hx hb dX3_sendSome_1 (by decide) ?_
  refine lv_sipush (v := nI 999) hx hb dX3_sendSome_2 (by decide) ?_
  refine mr_callS (As := [.int bud, .int (nI 0), .int (nI 999)]) C0 (ctX3_isWithin (I := I) (J := J) (v := bud) (lo := (nI 0)) (up := (nI 999)) ) (va_cwS 3 C0.1.2.2.2.2 gX3_sendSome_X3_isWithin rfl rfl rfl (by decide +kernel) (by rw [hR]; exact ⟨Nat.le_of_ble_eq_true rfl, Nat.le_of_ble_eq_true rfl⟩)) hM hS rfl rfl rfl hl.1 (Nat.le_of_ble_eq_true rfl) dX3_sendSome_5 (by rw [hR]; exact ⟨Nat.zero_le _, Nat.zero_le _⟩) (fun H locs hM hS => ?_)
  refine mr_neB (tgt := 13) C0 dX3_sendSome_8 (by decide) (fun c1 => ?_) (fun c1 => absurd c1 (by rw [hw0]; decide))
  refine lv_aload_n hx hb dX3_sendSome_13 rfl (lv_at hl 0 rfl) ?_
  refine mr_callV (As := []) C0 (ctX3_record (I := I) (J := J) hX hA hW hn (by omega)) (cwV 0 C0.1.2.2.2.2 gX3_sendSome_X3_record rfl rfl rfl (by decide +kernel) (by rw [hR]; exact ⟨Nat.le_of_ble_eq_true rfl, Nat.le_of_ble_eq_true rfl⟩)) hM hX.1.1 hX.1.2 rfl rfl hM hS rfl rfl rfl hl.1 (Nat.le_of_ble_eq_true rfl) dX3_sendSome_14 (by rw [hR]; exact ⟨Nat.zero_le _, Nat.zero_le _⟩) (fun H locs hM hS => ?_)
  have hX2 := IsX_rec (n := n) hX hA
  refine lv_iload_n hx hb dX3_sendSome_17 rfl (lv_at hl 1 rfl) ?_
  refine lv_istore_n (lv' := [(2, .int bud), (0, .ref x), (1, .int bud)]) hx hb dX3_sendSome_18 rfl hl (by decide) rfl (fun ls hl => ?_)
  refine lv_iconst (v := nI 0) hx hb dX3_sendSome_19 (by decide) ?_
  refine lv_istore_n (lv' := [(3, .int (nI 0)), (2, .int bud), (0, .ref x), (1, .int bud)]) hx hb dX3_sendSome_20 rfl hl (by decide) rfl (fun ls hl => ?_)
  refine lp_loop (σ := hm_I × Int32) (fun i21 x21 => ∀ (H : Heap) (locs : List Loc) (ls : Array Slot), hm D T L A (recSh Sh h hs n) x21.1 J H → va_S A s_.heap H locs → lv_has ls 5 [(0, .ref x), (2, .int x21.2), (3, .int (nI i21))] → W p_ l e_ R s_ m_ args_ below_ meth_ c_ H locs 0 0 Qq (F0 m_ 21 ls [])) m0 (fun i21 x21 => (fX2_sendFirst_t x21.1 p (cS x21.1 p) (lcS x21.1 p) (kS x21.1 p), x21.2 - (x21.1 ((p + 4 + 5 * (kS x21.1 p)) + 3) 0))) ((recI I x p n hs c ec lc), bud) (fun (i21 : Nat) (x21 : hm_I × Int32) => WfSC x21.1 p ∧ Inv i21 x21) ⟨hB.2.1, hB.2.2.1⟩ (fun i x hi hv => ⟨hB.2.2.2.1 i x hi hv.1 hv.2, hB.2.2.2.2.1 i x hi hv.1 hv.2⟩) (fun i21 x21 hi2 hv3 k4 H locs ls hM hS hl => ?_) (fun hv3 H locs ls hM hS hl => ?_) _ _ _ hM hS (lv_sub hl [2, 1, 0] rfl)
  · have stp5 : ∀ yy_ : hm_I × Int32, yy_ = ((fX2_sendFirst_t x21.1 p (cS x21.1 p) (lcS x21.1 p) (kS x21.1 p), x21.2 - (x21.1 ((p + 4 + 5 * (kS x21.1 p)) + 3) 0))) → ∀ (H : Heap) (locs : List Loc) (ls : Array Slot), hm D T L A (recSh Sh h hs n) yy_.1 J H → va_S A s_.heap H locs → lv_has ls 5 [(0, .ref x), (2, .int yy_.2), (3, .int (nI (i21 + 1)))] → W p_ l e_ R s_ m_ args_ below_ meth_ c_ H locs 0 0 Qq (F0 m_ 21 ls []) := fun yy_ ey => by rw [ey]; exact k4
    have hok := hB.2.2.2.2.2.1 i21 x21 hi2 hv3.1 hv3.2
    have hok1 := hok.1
    have hok2 := hok.2.1
    have hfit := hB.2.2.2.2.2.2 i21 x21 hi2 hv3.1 hv3.2
    refine lv_iload_n hx hb dX3_sendSome_21 rfl (lv_at hl 2 rfl) ?_
    refine lv_bipush (v := nI 48) hx hb dX3_sendSome_22 (by decide) ?_
    refine mr_geN (x := i21) (y := 48) (tgt := 96) C0 dX3_sendSome_24 (by decide) (by omega) (by omega) (fun c6 => absurd c6 (by omega)) (fun c6 => ?_)
    refine lv_aload_n hx hb dX3_sendSome_27 rfl (lv_at hl 0 rfl) ?_
    refine mr_getr (r := p) (TT := TX3) (N := 7) C0 uX3_sendSome_X3 hM hX2.1.1 hX2.1.2 rfl 0 (by decide) rfl kX3_sendSome_f10 rfl dX3_sendSome_28 ?_
    refine mr_callV (As := []) C0 (ctX2_nextStream (I := x21.1) (J := J) (q := p) hX2.2.1 hv3.1) (cwV 0 C0.1.2.2.2.2 gX3_sendSome_X2_nextStream rfl rfl rfl (by decide +kernel) (by rw [hR]; exact ⟨Nat.le_of_ble_eq_true rfl, Nat.le_of_ble_eq_true rfl⟩)) hM hX2.2.1.1.1 hX2.2.1.1.2 rfl rfl hM hS rfl rfl rfl hl.1 (Nat.le_of_ble_eq_true rfl) dX3_sendSome_31 (by rw [hR]; exact ⟨Nat.zero_le _, Nat.zero_le _⟩) (fun H locs hM hS => ?_)
    refine lv_istore (lv' := [(4, .int (fX2_nextStream x21.1 p (cS x21.1 p) (eS x21.1 p))), (0, .ref x), (2, .int x21.2), (3, .int (nI i21))]) hx hb dX3_sendSome_34 hl (by decide) rfl (fun ls hl => ?_)
    refine lv_iload hx hb dX3_sendSome_36 (lv_at hl 0 rfl) ?_
    refine lv_bipush (v := (-9)) hx hb dX3_sendSome_38 (by decide) ?_
    refine lv_icmp_eq (tgt := 96) hx hb dX3_sendSome_40 (by decide) (fun c7 => absurd (hok.2.2.symm.trans c7) (nI_ne_m9 (by omega))) (fun c7 => ?_)
    refine lv_aload_n hx hb dX3_sendSome_43 rfl (lv_at hl 1 rfl) ?_
    refine mr_getr (r := p) (TT := TX3) (N := 7) C0 uX3_sendSome_X3 hM hX2.1.1 hX2.1.2 rfl 0 (by decide) rfl kX3_sendSome_f10 rfl dX3_sendSome_44 ?_
    refine mr_getr (r := p + 3) (TT := TX2) (N := 10) C0 uX3_sendSome_X2 hM hX2.2.1.1.1 hX2.2.1.1.2 rfl 3 (by decide) rfl kX3_sendSome_f65 rfl dX3_sendSome_47 ?_
    refine lv_iload hx hb dX3_sendSome_50 (lv_at hl 0 rfl) ?_
    refine mr_top (y := nI (kS x21.1 p)) hok.2.2 ?_
    refine mr_aald (t := 0) (C := RX0) (r := p + 4 + 5 * (kS x21.1 p)) C0 hM hX2.2.1.2.2.2.1.1 hX2.2.1.2.2.2.1.2 rfl (by decide) (by omega) rfl dX3_sendSome_52 ?_
    refine lv_iconst (v := nI 0) hx hb dX3_sendSome_53 (by decide) ?_
    have hw8 := hv3.1.1 (kS x21.1 p) (by omega)
    have hw8b := hw8.2
    refine mr_callV (As := [.int (nI 0)]) C0 (ctX0_sizeAt_t (I := x21.1) (J := J) (a := (p + 4 + 5 * (kS x21.1 p))) (k := 0) (hX2.2.1.2.2.2.2.1 _ (by omega)) hw8.1 (by omega) (by omega) (by omega)) (cwV 1 C0.1.2.2.2.2 gX3_sendSome_X0_sizeAt rfl rfl rfl (by decide +kernel) (by rw [hR]; exact ⟨Nat.le_of_ble_eq_true rfl, Nat.le_of_ble_eq_true rfl⟩)) hM (hX2.2.1.2.2.2.2.1 _ (by omega)).1.1 (hX2.2.1.2.2.2.2.1 _ (by omega)).1.2 rfl rfl hM hS rfl rfl rfl hl.1 (Nat.le_of_ble_eq_true rfl) dX3_sendSome_54 (by rw [hR]; exact ⟨Nat.zero_le _, Nat.zero_le _⟩) (fun H locs hM hS => ?_)
    refine lv_iload_n hx hb dX3_sendSome_57 rfl (lv_at hl 2 rfl) ?_
    refine lv_icmp_le (tgt := 64) hx hb dX3_sendSome_58 (by decide) (fun c9 => ?_) (fun c9 => absurd hfit c9)
    refine lv_iload_n hx hb dX3_sendSome_64 rfl (lv_at hl 2 rfl) ?_
    refine lv_aload_n hx hb dX3_sendSome_65 rfl (lv_at hl 1 rfl) ?_
    refine mr_getr (r := p) (TT := TX3) (N := 7) C0 uX3_sendSome_X3 hM hX2.1.1 hX2.1.2 rfl 0 (by decide) rfl kX3_sendSome_f10 rfl dX3_sendSome_66 ?_
    refine mr_getr (r := p + 3) (TT := TX2) (N := 10) C0 uX3_sendSome_X2 hM hX2.2.1.1.1 hX2.2.1.1.2 rfl 3 (by decide) rfl kX3_sendSome_f65 rfl dX3_sendSome_69 ?_
    refine lv_iload hx hb dX3_sendSome_72 (lv_at hl 0 rfl) ?_
    refine mr_top (y := nI (kS x21.1 p)) hok.2.2 ?_
    refine mr_aald (t := 0) (C := RX0) (r := p + 4 + 5 * (kS x21.1 p)) C0 hM hX2.2.1.2.2.2.1.1 hX2.2.1.2.2.2.1.2 rfl (by decide) (by omega) rfl dX3_sendSome_74 ?_
    refine lv_iconst (v := nI 0) hx hb dX3_sendSome_75 (by decide) ?_
    refine mr_callV (As := [.int (nI 0)]) C0 (ctX0_sizeAt_t (I := x21.1) (J := J) (a := (p + 4 + 5 * (kS x21.1 p))) (k := 0) (hX2.2.1.2.2.2.2.1 _ (by omega)) hw8.1 (by omega) (by omega) (by omega)) (cwV 1 C0.1.2.2.2.2 gX3_sendSome_X0_sizeAt rfl rfl rfl (by decide +kernel) (by rw [hR]; exact ⟨Nat.le_of_ble_eq_true rfl, Nat.le_of_ble_eq_true rfl⟩)) hM (hX2.2.1.2.2.2.2.1 _ (by omega)).1.1 (hX2.2.1.2.2.2.2.1 _ (by omega)).1.2 rfl rfl hM hS rfl rfl rfl hl.1 (Nat.le_of_ble_eq_true rfl) dX3_sendSome_76 (by rw [hR]; exact ⟨Nat.zero_le _, Nat.zero_le _⟩) (fun H locs hM hS => ?_)
    refine lv_isub hx hb dX3_sendSome_79 ?_
    refine lv_istore_n (lv' := [(2, .int (x21.2 - (x21.1 ((p + 4 + 5 * (kS x21.1 p)) + 3) 0))), (4, .int (fX2_nextStream x21.1 p (cS x21.1 p) (eS x21.1 p))), (0, .ref x), (3, .int (nI i21))]) hx hb dX3_sendSome_80 rfl hl (by decide) rfl (fun ls hl => ?_)
    refine lv_aload_n hx hb dX3_sendSome_81 rfl (lv_at hl 2 rfl) ?_
    refine mr_getr (r := p) (TT := TX3) (N := 7) C0 uX3_sendSome_X3 hM hX2.1.1 hX2.1.2 rfl 0 (by decide) rfl kX3_sendSome_f10 rfl dX3_sendSome_82 ?_
    refine lv_iload hx hb dX3_sendSome_85 (lv_at hl 1 rfl) ?_
    refine mr_top (y := nI (kS x21.1 p)) hok.2.2 ?_
    refine mr_callV (As := [.int (nI (kS x21.1 p))]) C0 (ctX2_sendFirst_t (I := x21.1) (J := J) (q := p) (s0 := (kS x21.1 p)) hX2.2.1 hv3.1 (by omega) (by omega)) (cwV 1 C0.1.2.2.2.2 gX3_sendSome_X2_sendFirst rfl rfl rfl (by decide +kernel) (by rw [hR]; exact ⟨Nat.le_of_ble_eq_true rfl, Nat.le_of_ble_eq_true rfl⟩)) hM hX2.2.1.1.1 hX2.2.1.1.2 rfl rfl hM hS rfl rfl rfl hl.1 (Nat.le_of_ble_eq_true rfl) dX3_sendSome_87 (by rw [hR]; exact ⟨Nat.zero_le _, Nat.zero_le _⟩) (fun H locs hM hS => ?_)
    refine lv_iinc (v := nI (i21 + 1)) (lv' := [(3, .int (nI (i21 + 1))), (2, .int (x21.2 - (x21.1 ((p + 4 + 5 * (kS x21.1 p)) + 3) 0))), (4, .int (fX2_nextStream x21.1 p (cS x21.1 p) (eS x21.1 p))), (0, .ref x)]) hx hb dX3_sendSome_90 hl (k := 3) rfl (nI_1 _) (by decide) rfl (fun ls hl => ?_)
    refine lv_goto (tgt := 21) hx hb dX3_sendSome_93 (by decide) ?_
    exact stp5 (fX2_sendFirst_t x21.1 p (cS x21.1 p) (lcS x21.1 p) (kS x21.1 p), x21.2 - (x21.1 ((p + 4 + 5 * (kS x21.1 p)) + 3) 0)) rfl H locs ls hM hS (lv_sub hl [3, 1, 0] rfl)
  · skip
    have hm : m0 = 48 := hEnd
    refine lv_iload_n hx hb dX3_sendSome_21 rfl (lv_at hl 2 rfl) ?_
    refine lv_bipush (v := nI 48) hx hb dX3_sendSome_22 (by decide) ?_
    refine mr_geN (x := m0) (y := 48) (tgt := 96) C0 dX3_sendSome_24 (by decide) (by omega) (by omega) (fun c10 => ?_) (fun c10 => absurd c10 (by omega))
    refine lv_iload_n hx hb dX3_sendSome_96 rfl (lv_at hl 2 rfl) ?_
    have eF : (nI m0, (lp m0 (fun i21 x21 => (fX2_sendFirst_t x21.1 p (cS x21.1 p) (lcS x21.1 p) (kS x21.1 p), x21.2 - (x21.1 ((p + 4 + 5 * (kS x21.1 p)) + 3) 0))) ((recI I x p n hs c ec lc), bud)).1) = fX3_sendSome_tC I x p n hs c ec lc m0 bud := rfl
    exact mr_iret (v := nI m0) C0 hr hlk hQ hS (by rw [← eF]) (by rw [← eF]; exact hM) (Nat.le_refl _) (Nat.le_refl _) dX3_sendSome_97
def fX3_sentBefore (I : hm_I) (p f s0 k0 m0 : Nat) (c : Nat → Nat) (ec lc : Nat) : Int32 × hm_I :=
  (nI m0, (lp m0 (fun i16 x16 => if (kS x16.1 f) = s0 then (fX2_sendFirst_t x16.1 f (cS x16.1 f) (lcS x16.1 f) (kS x16.1 f), x16.2 + (-1)) else (fX2_sendFirst_t x16.1 f (cS x16.1 f) (lcS x16.1 f) (kS x16.1 f), x16.2)) ((fX2_copyFrom I f p c ec lc), (nI k0))).1)
set_option maxHeartbeats 4000000 in
set_option maxRecDepth 100000 in
theorem ctX3_sentBefore {l : Launch} {D : va_G} {T : Nat → ClassId} {L : List Nat} {A : Nat → Prop} {Sh : hm_S} {I : hm_I} {J : hm_J} {x p f h m k j : Nat} {hs im : Nat → Nat} (hX : IsX L Sh x p f h m k j hs im) (hA : ApX x p f h m k j hs im) {c : Nat → Nat} {e : Nat → Nat → Nat} {ec lc : Nat} (hW : WfS I p c e ec lc) {s0 k0 m0 : Nat} {Inv : Nat → hm_I × Int32 → Prop} (hs0 : s0 < 8) (hk0 : k0 < 1000) (hB : BefS (fX2_copyFrom I f p c ec lc) f s0 m0 k0 Inv) :
    Ct l yX3_sentBefore wsX3_sentBefore { frames := 5, cells := 0, slots := 0, locals := 111 } 0 0 D T A [.ref x, .int (nI s0), .int (nI k0)] (hm D T L A Sh I J) (some (.int ((fX3_sentBefore I p f s0 k0 m0 c ec lc).1))) (hm D T L A Sh ((fX3_sentBefore I p f s0 k0 m0 c ec lc).2) J) := by
  refine Ct.ofW (cc := cX3_sentBefore) (maxL := 6) (ret := (some .int)) (by decide) rfl (Nat.le_of_ble_eq_true rfl) ?_
  intro p_ e_ s_ m_ args_ below_ meth_ c_ ls R Qq hR hQ C0 hr hlk hname hM hl
  have hx := C0.1.1
  have hb := C0.1.2.1
  have hS : va_S A s_.heap s_.heap [] := va_S.rf
  have hl : lv_has ls 6 [(0, .ref x), (1, .int (nI s0)), (2, .int (nI k0))] := hl
  have hec10 := hW.2.2.2.2.1
  have hec1 := hW.2.2.2.1
  have hm48 := hB.1
  have hff : f + 83 ≤ p ∨ p + 83 ≤ f := (hA.2.2.1).symm
  refine lv_aload_n hx hb dX3_sentBefore_0 rfl (lv_at hl 0 rfl) ?_
  refine mr_getr (r := f) (TT := TX3) (N := 7) C0 uX3_sentBefore_X3 hM hX.1.1 hX.1.2 rfl 1 (by decide) rfl kX3_sentBefore_f16 rfl dX3_sentBefore_1 ?_
  refine lv_aload_n hx hb dX3_sentBefore_4 rfl (lv_at hl 0 rfl) ?_
  refine mr_getr (r := p) (TT := TX3) (N := 7) C0 uX3_sentBefore_X3 hM hX.1.1 hX.1.2 rfl 0 (by decide) rfl kX3_sentBefore_f10 rfl dX3_sentBefore_5 ?_
  refine mr_callV (As := [.ref p]) C0 (ctX2_copyFrom (I := I) (J := J) (q := f) (r := p) hX.2.2.1 hX.2.1 hW (by omega)) (cwV 1 C0.1.2.2.2.2 gX3_sentBefore_X2_copyFrom rfl rfl rfl (by decide +kernel) (by rw [hR]; exact ⟨Nat.le_of_ble_eq_true rfl, Nat.le_of_ble_eq_true rfl⟩)) hM hX.2.2.1.1.1 hX.2.2.1.1.2 rfl rfl hM hS rfl rfl rfl hl.1 (Nat.le_of_ble_eq_true rfl) dX3_sentBefore_8 (by rw [hR]; exact ⟨Nat.zero_le _, Nat.zero_le _⟩) (fun H locs hM hS => ?_)
  refine lv_iload_n hx hb dX3_sentBefore_11 rfl (lv_at hl 2 rfl) ?_
  refine lv_istore_n (lv' := [(3, .int (nI k0)), (0, .ref x), (1, .int (nI s0)), (2, .int (nI k0))]) hx hb dX3_sentBefore_12 rfl hl (by decide) rfl (fun ls hl => ?_)
  refine lv_iconst (v := nI 0) hx hb dX3_sentBefore_13 (by decide) ?_
  refine lv_istore (lv' := [(4, .int (nI 0)), (3, .int (nI k0)), (0, .ref x), (1, .int (nI s0)), (2, .int (nI k0))]) hx hb dX3_sentBefore_14 hl (by decide) rfl (fun ls hl => ?_)
  refine lp_loop (σ := hm_I × Int32) (fun i16 x16 => ∀ (H : Heap) (locs : List Loc) (ls : Array Slot), hm D T L A Sh x16.1 J H → va_S A s_.heap H locs → lv_has ls 6 [(0, .ref x), (1, .int (nI s0)), (3, .int x16.2), (4, .int (nI i16))] → W p_ l e_ R s_ m_ args_ below_ meth_ c_ H locs 0 0 Qq (F0 m_ 16 ls [])) m0 (fun i16 x16 => if (kS x16.1 f) = s0 then (fX2_sendFirst_t x16.1 f (cS x16.1 f) (lcS x16.1 f) (kS x16.1 f), x16.2 + (-1)) else (fX2_sendFirst_t x16.1 f (cS x16.1 f) (lcS x16.1 f) (kS x16.1 f), x16.2)) ((fX2_copyFrom I f p c ec lc), (nI k0)) (fun (i16 : Nat) (x16 : hm_I × Int32) => WfSC x16.1 f ∧ Inv i16 x16) ⟨hB.2.1, hB.2.2.1⟩ (fun i x hi hv => ⟨hB.2.2.2.1 i x hi hv.1 hv.2, hB.2.2.2.2.1 i x hi hv.1 hv.2⟩) (fun i16 x16 hi1 hv2 k3 H locs ls hM hS hl => ?_) (fun hv2 H locs ls hM hS hl => ?_) _ _ _ hM hS (lv_sub hl [2, 3, 1, 0] rfl)
  · have stp4 : ∀ yy_ : hm_I × Int32, yy_ = (if (kS x16.1 f) = s0 then (fX2_sendFirst_t x16.1 f (cS x16.1 f) (lcS x16.1 f) (kS x16.1 f), x16.2 + (-1)) else (fX2_sendFirst_t x16.1 f (cS x16.1 f) (lcS x16.1 f) (kS x16.1 f), x16.2)) → ∀ (H : Heap) (locs : List Loc) (ls : Array Slot), hm D T L A Sh yy_.1 J H → va_S A s_.heap H locs → lv_has ls 6 [(0, .ref x), (1, .int (nI s0)), (3, .int yy_.2), (4, .int (nI (i16 + 1)))] → W p_ l e_ R s_ m_ args_ below_ meth_ c_ H locs 0 0 Qq (F0 m_ 16 ls []) := fun yy_ ey => by rw [ey]; exact k3
    have hok := hB.2.2.2.2.2.1 i16 x16 (Nat.le_of_lt hi1) hv2.1 hv2.2
    have hok1 := hok.1
    have hok2 := hok.2.1
    have hne0 := hB.2.2.2.2.2.2.1 i16 x16 hi1 hv2.1 hv2.2
    refine lv_iload hx hb dX3_sentBefore_16 (lv_at hl 3 rfl) ?_
    refine lv_bipush (v := nI 48) hx hb dX3_sentBefore_18 (by decide) ?_
    refine mr_geN (x := i16) (y := 48) (tgt := 73) C0 dX3_sentBefore_20 (by decide) (by omega) (by omega) (fun c5 => absurd c5 (by omega)) (fun c5 => ?_)
    refine lv_aload_n hx hb dX3_sentBefore_23 rfl (lv_at hl 0 rfl) ?_
    refine mr_getr (r := f) (TT := TX3) (N := 7) C0 uX3_sentBefore_X3 hM hX.1.1 hX.1.2 rfl 1 (by decide) rfl kX3_sentBefore_f16 rfl dX3_sentBefore_24 ?_
    refine mr_callV (As := []) C0 (ctX2_nextStream (I := x16.1) (J := J) (q := f) hX.2.2.1 hv2.1) (cwV 0 C0.1.2.2.2.2 gX3_sentBefore_X2_nextStream rfl rfl rfl (by decide +kernel) (by rw [hR]; exact ⟨Nat.le_of_ble_eq_true rfl, Nat.le_of_ble_eq_true rfl⟩)) hM hX.2.2.1.1.1 hX.2.2.1.1.2 rfl rfl hM hS rfl rfl rfl hl.1 (Nat.le_of_ble_eq_true rfl) dX3_sentBefore_27 (by rw [hR]; exact ⟨Nat.zero_le _, Nat.zero_le _⟩) (fun H locs hM hS => ?_)
    refine lv_istore (lv' := [(5, .int (fX2_nextStream x16.1 f (cS x16.1 f) (eS x16.1 f))), (0, .ref x), (1, .int (nI s0)), (3, .int x16.2), (4, .int (nI i16))]) hx hb dX3_sentBefore_30 hl (by decide) rfl (fun ls hl => ?_)
    refine lv_iload hx hb dX3_sentBefore_32 (lv_at hl 0 rfl) ?_
    refine lv_bipush (v := (-9)) hx hb dX3_sentBefore_34 (by decide) ?_
    refine lv_icmp_ne (tgt := 42) hx hb dX3_sentBefore_36 (by decide) (fun c6 => ?_) (fun c6 => absurd (hok.2.2.symm.trans c6) (nI_ne_m9 (by omega)))
    refine lv_iload hx hb dX3_sentBefore_42 (lv_at hl 0 rfl) ?_
    refine mr_top (y := nI (kS x16.1 f)) hok.2.2 ?_
    refine lv_iload_n hx hb dX3_sentBefore_44 rfl (lv_at hl 2 rfl) ?_
    refine mr_neN (x := (kS x16.1 f)) (y := s0) (tgt := 58) C0 dX3_sentBefore_45 (by decide) (by omega) (by omega) (fun c7 => ?_) (fun c7 => ?_)
    · skip
      refine lv_aload_n hx hb dX3_sentBefore_58 rfl (lv_at hl 1 rfl) ?_
      refine mr_getr (r := f) (TT := TX3) (N := 7) C0 uX3_sentBefore_X3 hM hX.1.1 hX.1.2 rfl 1 (by decide) rfl kX3_sentBefore_f16 rfl dX3_sentBefore_59 ?_
      refine lv_iload hx hb dX3_sentBefore_62 (lv_at hl 0 rfl) ?_
      refine mr_top (y := nI (kS x16.1 f)) hok.2.2 ?_
      refine mr_callV (As := [.int (nI (kS x16.1 f))]) C0 (ctX2_sendFirst_t (I := x16.1) (J := J) (q := f) (s0 := (kS x16.1 f)) hX.2.2.1 hv2.1 (by omega) (by omega)) (cwV 1 C0.1.2.2.2.2 gX3_sentBefore_X2_sendFirst rfl rfl rfl (by decide +kernel) (by rw [hR]; exact ⟨Nat.le_of_ble_eq_true rfl, Nat.le_of_ble_eq_true rfl⟩)) hM hX.2.2.1.1.1 hX.2.2.1.1.2 rfl rfl hM hS rfl rfl rfl hl.1 (Nat.le_of_ble_eq_true rfl) dX3_sentBefore_64 (by rw [hR]; exact ⟨Nat.zero_le _, Nat.zero_le _⟩) (fun H locs hM hS => ?_)
      refine lv_iinc (v := nI (i16 + 1)) (lv' := [(4, .int (nI (i16 + 1))), (5, .int (fX2_nextStream x16.1 f (cS x16.1 f) (eS x16.1 f))), (0, .ref x), (1, .int (nI s0)), (3, .int x16.2)]) hx hb dX3_sentBefore_67 hl (k := 4) rfl (nI_1 _) (by decide) rfl (fun ls hl => ?_)
      refine lv_goto (tgt := 16) hx hb dX3_sentBefore_70 (by decide) ?_
      exact stp4 (fX2_sendFirst_t x16.1 f (cS x16.1 f) (lcS x16.1 f) (kS x16.1 f), x16.2) (by rw [if_neg c7]) H locs ls hM hS (lv_sub hl [2, 3, 4, 0] rfl)
    · skip
      refine lv_iload_n hx hb dX3_sentBefore_48 rfl (lv_at hl 3 rfl) ?_
      refine lv_if_ne (tgt := 55) hx hb dX3_sentBefore_49 (by decide) (fun c8 => ?_) (fun c8 => absurd ⟨c7, c8⟩ hne0)
      refine lv_iinc (v := x16.2 + (-1)) (lv' := [(3, .int (x16.2 + (-1))), (5, .int (fX2_nextStream x16.1 f (cS x16.1 f) (eS x16.1 f))), (0, .ref x), (1, .int (nI s0)), (4, .int (nI i16))]) hx hb dX3_sentBefore_55 hl (k := 3) rfl rfl (by decide) rfl (fun ls hl => ?_)
      refine lv_aload_n hx hb dX3_sentBefore_58 rfl (lv_at hl 2 rfl) ?_
      refine mr_getr (r := f) (TT := TX3) (N := 7) C0 uX3_sentBefore_X3 hM hX.1.1 hX.1.2 rfl 1 (by decide) rfl kX3_sentBefore_f16 rfl dX3_sentBefore_59 ?_
      refine lv_iload hx hb dX3_sentBefore_62 (lv_at hl 1 rfl) ?_
      refine mr_top (y := nI (kS x16.1 f)) hok.2.2 ?_
      refine mr_callV (As := [.int (nI (kS x16.1 f))]) C0 (ctX2_sendFirst_t (I := x16.1) (J := J) (q := f) (s0 := (kS x16.1 f)) hX.2.2.1 hv2.1 (by omega) (by omega)) (cwV 1 C0.1.2.2.2.2 gX3_sentBefore_X2_sendFirst rfl rfl rfl (by decide +kernel) (by rw [hR]; exact ⟨Nat.le_of_ble_eq_true rfl, Nat.le_of_ble_eq_true rfl⟩)) hM hX.2.2.1.1.1 hX.2.2.1.1.2 rfl rfl hM hS rfl rfl rfl hl.1 (Nat.le_of_ble_eq_true rfl) dX3_sentBefore_64 (by rw [hR]; exact ⟨Nat.zero_le _, Nat.zero_le _⟩) (fun H locs hM hS => ?_)
      refine lv_iinc (v := nI (i16 + 1)) (lv' := [(4, .int (nI (i16 + 1))), (3, .int (x16.2 + (-1))), (5, .int (fX2_nextStream x16.1 f (cS x16.1 f) (eS x16.1 f))), (0, .ref x), (1, .int (nI s0))]) hx hb dX3_sentBefore_67 hl (k := 4) rfl (nI_1 _) (by decide) rfl (fun ls hl => ?_)
      refine lv_goto (tgt := 16) hx hb dX3_sentBefore_70 (by decide) ?_
      exact stp4 (fX2_sendFirst_t x16.1 f (cS x16.1 f) (lcS x16.1 f) (kS x16.1 f), x16.2 + (-1)) (by rw [if_pos c7]) H locs ls hM hS (lv_sub hl [3, 4, 1, 0] rfl)
  · skip
    have hok := hB.2.2.2.2.2.1 m0 _ (Nat.le_refl _) hv2.1 hv2.2
    have hok1 := hok.1
    have hok2 := hok.2.1
    have hE := hB.2.2.2.2.2.2.2 _ hv2.1 hv2.2
    refine lv_iload hx hb dX3_sentBefore_16 (lv_at hl 3 rfl) ?_
    refine lv_bipush (v := nI 48) hx hb dX3_sentBefore_18 (by decide) ?_
    refine mr_geN (x := m0) (y := 48) (tgt := 73) C0 dX3_sentBefore_20 (by decide) (by omega) (by omega) (fun c9 => absurd c9 (by omega)) (fun c9 => ?_)
    refine lv_aload_n hx hb dX3_sentBefore_23 rfl (lv_at hl 0 rfl) ?_
    refine mr_getr (r := f) (TT := TX3) (N := 7) C0 uX3_sentBefore_X3 hM hX.1.1 hX.1.2 rfl 1 (by decide) rfl kX3_sentBefore_f16 rfl dX3_sentBefore_24 ?_
    refine mr_callV (As := []) C0 (ctX2_nextStream (I := ((lp m0 (fun i16 x16 => if (kS x16.1 f) = s0 then (fX2_sendFirst_t x16.1 f (cS x16.1 f) (lcS x16.1 f) (kS x16.1 f), x16.2 + (-1)) else (fX2_sendFirst_t x16.1 f (cS x16.1 f) (lcS x16.1 f) (kS x16.1 f), x16.2)) ((fX2_copyFrom I f p c ec lc), (nI k0))).1)) (J := J) (q := f) hX.2.2.1 hv2.1) (cwV 0 C0.1.2.2.2.2 gX3_sentBefore_X2_nextStream rfl rfl rfl (by decide +kernel) (by rw [hR]; exact ⟨Nat.le_of_ble_eq_true rfl, Nat.le_of_ble_eq_true rfl⟩)) hM hX.2.2.1.1.1 hX.2.2.1.1.2 rfl rfl hM hS rfl rfl rfl hl.1 (Nat.le_of_ble_eq_true rfl) dX3_sentBefore_27 (by rw [hR]; exact ⟨Nat.zero_le _, Nat.zero_le _⟩) (fun H locs hM hS => ?_)
    refine lv_istore (lv' := [(5, .int (fX2_nextStream ((lp m0 (fun i16 x16 => if (kS x16.1 f) = s0 then (fX2_sendFirst_t x16.1 f (cS x16.1 f) (lcS x16.1 f) (kS x16.1 f), x16.2 + (-1)) else (fX2_sendFirst_t x16.1 f (cS x16.1 f) (lcS x16.1 f) (kS x16.1 f), x16.2)) ((fX2_copyFrom I f p c ec lc), (nI k0))).1) f (cS ((lp m0 (fun i16 x16 => if (kS x16.1 f) = s0 then (fX2_sendFirst_t x16.1 f (cS x16.1 f) (lcS x16.1 f) (kS x16.1 f), x16.2 + (-1)) else (fX2_sendFirst_t x16.1 f (cS x16.1 f) (lcS x16.1 f) (kS x16.1 f), x16.2)) ((fX2_copyFrom I f p c ec lc), (nI k0))).1) f) (eS ((lp m0 (fun i16 x16 => if (kS x16.1 f) = s0 then (fX2_sendFirst_t x16.1 f (cS x16.1 f) (lcS x16.1 f) (kS x16.1 f), x16.2 + (-1)) else (fX2_sendFirst_t x16.1 f (cS x16.1 f) (lcS x16.1 f) (kS x16.1 f), x16.2)) ((fX2_copyFrom I f p c ec lc), (nI k0))).1) f))), (0, .ref x), (1, .int (nI s0)), (3, .int ((lp m0 (fun i16 x16 => if (kS x16.1 f) = s0 then (fX2_sendFirst_t x16.1 f (cS x16.1 f) (lcS x16.1 f) (kS x16.1 f), x16.2 + (-1)) else (fX2_sendFirst_t x16.1 f (cS x16.1 f) (lcS x16.1 f) (kS x16.1 f), x16.2)) ((fX2_copyFrom I f p c ec lc), (nI k0))).2)), (4, .int (nI m0))]) hx hb dX3_sentBefore_30 hl (by decide) rfl (fun ls hl => ?_)
    refine lv_iload hx hb dX3_sentBefore_32 (lv_at hl 0 rfl) ?_
    refine lv_bipush (v := (-9)) hx hb dX3_sentBefore_34 (by decide) ?_
    refine lv_icmp_ne (tgt := 42) hx hb dX3_sentBefore_36 (by decide) (fun c10 => ?_) (fun c10 => absurd (hok.2.2.symm.trans c10) (nI_ne_m9 (by omega)))
    refine lv_iload hx hb dX3_sentBefore_42 (lv_at hl 0 rfl) ?_
    refine mr_top (y := nI (kS ((lp m0 (fun i16 x16 => if (kS x16.1 f) = s0 then (fX2_sendFirst_t x16.1 f (cS x16.1 f) (lcS x16.1 f) (kS x16.1 f), x16.2 + (-1)) else (fX2_sendFirst_t x16.1 f (cS x16.1 f) (lcS x16.1 f) (kS x16.1 f), x16.2)) ((fX2_copyFrom I f p c ec lc), (nI k0))).1) f)) hok.2.2 ?_
    refine lv_iload_n hx hb dX3_sentBefore_44 rfl (lv_at hl 2 rfl) ?_
    refine mr_neN (x := (kS ((lp m0 (fun i16 x16 => if (kS x16.1 f) = s0 then (fX2_sendFirst_t x16.1 f (cS x16.1 f) (lcS x16.1 f) (kS x16.1 f), x16.2 + (-1)) else (fX2_sendFirst_t x16.1 f (cS x16.1 f) (lcS x16.1 f) (kS x16.1 f), x16.2)) ((fX2_copyFrom I f p c ec lc), (nI k0))).1) f)) (y := s0) (tgt := 58) C0 dX3_sentBefore_45 (by decide) (by omega) (by omega) (fun c11 => absurd hE.1 c11) (fun c11 => ?_)
    refine lv_iload_n hx hb dX3_sentBefore_48 rfl (lv_at hl 3 rfl) ?_
    refine lv_if_ne (tgt := 55) hx hb dX3_sentBefore_49 (by decide) (fun c12 => absurd hE.2 c12) (fun c12 => ?_)
    refine lv_iload hx hb dX3_sentBefore_52 (lv_at hl 4 rfl) ?_
    have eF : (nI m0, (lp m0 (fun i16 x16 => if (kS x16.1 f) = s0 then (fX2_sendFirst_t x16.1 f (cS x16.1 f) (lcS x16.1 f) (kS x16.1 f), x16.2 + (-1)) else (fX2_sendFirst_t x16.1 f (cS x16.1 f) (lcS x16.1 f) (kS x16.1 f), x16.2)) ((fX2_copyFrom I f p c ec lc), (nI k0))).1) = fX3_sentBefore I p f s0 k0 m0 c ec lc := rfl
    exact mr_iret (v := nI m0) C0 hr hlk hQ hS (by rw [← eF]) (by rw [← eF]; exact hM) (Nat.le_refl _) (Nat.le_refl _) dX3_sentBefore_54
set_option maxHeartbeats 4000000 in
set_option maxRecDepth 100000 in
theorem ctX3_stream_7 {l : Launch} {D : va_G} {T : Nat → ClassId} {L : List Nat} {A : Nat → Prop} {Sh : hm_S} {I : hm_I} {J : hm_J} {x p f h m k j : Nat} {hs im : Nat → Nat} (hX : IsX L Sh x p f h m k j hs im) (hA : ApX x p f h m k j hs im) {c : Nat → Nat} {e : Nat → Nat → Nat} {ec lc : Nat} (hW : WfS I p c e ec lc) {s0 : Nat} (hs0 : s0 < 8) (hc0 : 0 < c s0) {m0 : Nat} {Inv : Nat → hm_I × Int32 → Prop} (hB : BefS (fX2_copyFrom I f p c ec lc) f s0 m0 0 Inv) :
    Ct l yX3_stream wsX3_stream { frames := 6, cells := 0, slots := 0, locals := 136 } 0 0 D T A [.ref x, .int (nI s0), .int (nI 7)] (hm D T L A Sh I J) (some (.int (nI m0))) (hm D T L A Sh ((fX3_sentBefore I p f s0 0 m0 c ec lc).2) J) := by
  refine Ct.ofW (cc := cX3_stream) (maxL := 5) (ret := (some .int)) (by decide) rfl (Nat.le_of_ble_eq_true rfl) ?_
  intro p_ e_ s_ m_ args_ below_ meth_ c_ ls R Qq hR hQ C0 hr hlk hname hM hl
  have hx := C0.1.1
  have hb := C0.1.2.1
  have hS : va_S A s_.heap s_.heap [] := va_S.rf
  have hl : lv_has ls 5 [(0, .ref x), (1, .int (nI s0)), (2, .int (nI 7))] := hl
  have hec10 := hW.2.2.2.2.1
  have hec1 := hW.2.2.2.1
  refine lv_iload_n hx hb dX3_stream_0 rfl (lv_at hl 1 rfl) ?_
  refine mr_callS (As := [.int (nI s0)]) C0 (ctX3_isStream_t (I := I) (J := J) (s0 := s0) (by omega)) (va_cwS 1 C0.1.2.2.2.2 gX3_stream_X3_isStream rfl rfl rfl (by decide +kernel) (by rw [hR]; exact ⟨Nat.le_of_ble_eq_true rfl, Nat.le_of_ble_eq_true rfl⟩)) hM hS rfl rfl rfl hl.1 (Nat.le_of_ble_eq_true rfl) dX3_stream_1 (by rw [hR]; exact ⟨Nat.zero_le _, Nat.zero_le _⟩) (fun H locs hM hS => ?_)
  refine mr_eqB (tgt := 17) C0 dX3_stream_4 (by decide) (fun c1 => absurd c1 (by decide)) (fun _ => ?_)
  refine lv_iload_n hx hb dX3_stream_7 rfl (lv_at hl 2 rfl) ?_
  refine lv_iconst (v := nI 0) hx hb dX3_stream_8 (by decide) ?_
  refine lv_bipush (v := nI 7) hx hb dX3_stream_9 (by decide) ?_
  refine mr_callS (As := [.int (nI 7), .int (nI 0), .int (nI 7)]) C0 (ctX3_isWithin (I := I) (J := J) (v := (nI 7)) (lo := (nI 0)) (up := (nI 7)) ) (va_cwS 3 C0.1.2.2.2.2 gX3_stream_X3_isWithin rfl rfl rfl (by decide +kernel) (by rw [hR]; exact ⟨Nat.le_of_ble_eq_true rfl, Nat.le_of_ble_eq_true rfl⟩)) hM hS rfl rfl rfl hl.1 (Nat.le_of_ble_eq_true rfl) dX3_stream_11 (by rw [hR]; exact ⟨Nat.zero_le _, Nat.zero_le _⟩) (fun H locs hM hS => ?_)
  refine mr_neB (tgt := 19) C0 dX3_stream_14 (by decide) (fun c2 => ?_) (fun c2 => absurd c2 (by decide))
  refine lv_aload_n hx hb dX3_stream_19 rfl (lv_at hl 0 rfl) ?_
  refine mr_getr (r := p) (TT := TX3) (N := 7) C0 uX3_stream_X3 hM hX.1.1 hX.1.2 rfl 0 (by decide) rfl kX3_stream_f10 rfl dX3_stream_20 ?_
  refine mr_getr (r := p + 3) (TT := TX2) (N := 10) C0 uX3_stream_X2 hM hX.2.1.1.1 hX.2.1.1.2 rfl 3 (by decide) rfl kX3_stream_f65 rfl dX3_stream_23 ?_
  refine lv_iload_n hx hb dX3_stream_26 rfl (lv_at hl 1 rfl) ?_
  refine mr_aald (t := 0) (C := RX0) (r := p + 4 + 5 * s0) C0 hM hX.2.1.2.2.2.1.1 hX.2.1.2.2.2.1.2 rfl (by decide) (by omega) rfl dX3_stream_27 ?_
  refine lv_astore_n (lv' := [(3, .ref (p + 4 + 5 * s0)), (0, .ref x), (1, .int (nI s0)), (2, .int (nI 7))]) hx hb dX3_stream_28 rfl hl (by decide) rfl (fun ls hl => ?_)
  refine lv_iload_n hx hb dX3_stream_29 rfl (lv_at hl 3 rfl) ?_
  refine lv_iconst (v := nI 5) hx hb dX3_stream_30 (by decide) ?_
  refine mr_ltN (x := 7) (y := 5) (tgt := 44) C0 dX3_stream_31 (by decide) (by decide) (by decide) (fun c3 => absurd c3 (by decide)) (fun _ => ?_)
  refine lv_aload_n hx hb dX3_stream_34 rfl (lv_at hl 0 rfl) ?_
  have hw4 := hW.1 s0 (by omega)
  have hw4b := hw4.2
  refine mr_geti (v := nI (c s0)) (TT := TX0) (N := 5) C0 uX3_stream_X0 hM (hX.2.1.2.2.2.2.1 _ (by omega)).1.1 (hX.2.1.2.2.2.2.1 _ (by omega)).1.2 rfl 4 (by decide) rfl hw4.1 kX3_stream_f69 rfl dX3_stream_35 ?_
  refine mr_ne0N (x := (c s0)) (tgt := 44) C0 dX3_stream_38 (by decide) (by omega) (fun c5 => ?_) (fun c5 => absurd c5 (by omega))
  refine lv_aload_n hx hb dX3_stream_44 rfl (lv_at hl 1 rfl) ?_
  refine mr_getr (r := p) (TT := TX3) (N := 7) C0 uX3_stream_X3 hM hX.1.1 hX.1.2 rfl 0 (by decide) rfl kX3_stream_f10 rfl dX3_stream_45 ?_
  refine lv_iload_n hx hb dX3_stream_48 rfl (lv_at hl 2 rfl) ?_
  refine mr_callV (As := [.int (nI s0)]) C0 (ctX2_isOpen (I := I) (J := J) (q := p) (s0 := (nI s0)) hX.2.1) (cwV 1 C0.1.2.2.2.2 gX3_stream_X2_isOpen rfl rfl rfl (by decide +kernel) (by rw [hR]; exact ⟨Nat.le_of_ble_eq_true rfl, Nat.le_of_ble_eq_true rfl⟩)) hM hX.2.1.1.1 hX.2.1.1.2 rfl rfl hM hS rfl rfl rfl hl.1 (Nat.le_of_ble_eq_true rfl) dX3_stream_49 (by rw [hR]; exact ⟨Nat.zero_le _, Nat.zero_le _⟩) (fun H locs hM hS => ?_)
  refine lv_istore (lv' := [(4, .int (bI (fX2_isOpen I p (nI s0)))), (3, .ref (p + 4 + 5 * s0)), (0, .ref x), (1, .int (nI s0)), (2, .int (nI 7))]) hx hb dX3_stream_52 hl (by decide) rfl (fun ls hl => ?_)
  refine lv_iload_n hx hb dX3_stream_54 rfl (lv_at hl 4 rfl) ?_
  refine lv_tableOut (tgt := 181) hx hb dX3_stream_55 (by decide) (by decide) ?_
  refine lv_aload_n hx hb dX3_stream_181 rfl (lv_at hl 2 rfl) ?_
  refine lv_iload_n hx hb dX3_stream_182 rfl (lv_at hl 3 rfl) ?_
  refine lv_iconst (v := nI 0) hx hb dX3_stream_183 (by decide) ?_
  refine mr_callV (As := [.int (nI s0), .int (nI 0)]) C0 (ctX3_sentBefore (I := I) (J := J) (s0 := s0) (k0 := 0) hX hA hW (by omega) (by omega) hB) (cwV 2 C0.1.2.2.2.2 gX3_stream_X3_sentBefore rfl rfl rfl (by decide +kernel) (by rw [hR]; exact ⟨Nat.le_of_ble_eq_true rfl, Nat.le_of_ble_eq_true rfl⟩)) hM hX.1.1 hX.1.2 rfl rfl hM hS rfl rfl rfl hl.1 (Nat.le_of_ble_eq_true rfl) dX3_stream_184 (by rw [hR]; exact ⟨Nat.zero_le _, Nat.zero_le _⟩) (fun H locs hM hS => ?_)
  skip
  exact mr_iret (v := nI m0) C0 hr hlk hQ hS rfl hM (Nat.le_refl _) (Nat.le_refl _) dX3_stream_187
set_option maxHeartbeats 4000000 in
set_option maxRecDepth 100000 in
theorem ctX3_frame_3 {l : Launch} {D : va_G} {T : Nat → ClassId} {L : List Nat} {A : Nat → Prop} {Sh : hm_S} {I : hm_I} {J : hm_J} {x p f h m k j : Nat} {hs im : Nat → Nat} (hX : IsX L Sh x p f h m k j hs im) (hA : ApX x p f h m k j hs im) {c : Nat → Nat} {e : Nat → Nat → Nat} {ec lc : Nat} (hW : WfS I p c e ec lc) {s0 : Nat} (hs0 : s0 < 8) {k0 : Nat} (hck : k0 < c s0) {m0 : Nat} {Inv : Nat → hm_I × Int32 → Prop} (hB : BefS (fX2_copyFrom I f p c ec lc) f s0 m0 k0 Inv) :
    Ct l yX3_frame wsX3_frame { frames := 6, cells := 0, slots := 0, locals := 136 } 0 0 D T A [.ref x, .int (nI s0), .int (nI k0), .int (nI 3)] (hm D T L A Sh I J) (some (.int (nI m0))) (hm D T L A Sh ((fX3_sentBefore I p f s0 k0 m0 c ec lc).2) J) := by
  refine Ct.ofW (cc := cX3_frame) (maxL := 5) (ret := (some .int)) (by decide) rfl (Nat.le_of_ble_eq_true rfl) ?_
  intro p_ e_ s_ m_ args_ below_ meth_ c_ ls R Qq hR hQ C0 hr hlk hname hM hl
  have hx := C0.1.1
  have hb := C0.1.2.1
  have hS : va_S A s_.heap s_.heap [] := va_S.rf
  have hl : lv_has ls 5 [(0, .ref x), (1, .int (nI s0)), (2, .int (nI k0)), (3, .int (nI 3))] := hl
  have hec10 := hW.2.2.2.2.1
  have hec1 := hW.2.2.2.1
  have hk6 := (hW.1 s0 hs0).2
  refine lv_iload_n hx hb dX3_frame_0 rfl (lv_at hl 1 rfl) ?_
  refine mr_callS (As := [.int (nI s0)]) C0 (ctX3_isStream_t (I := I) (J := J) (s0 := s0) (by omega)) (va_cwS 1 C0.1.2.2.2.2 gX3_frame_X3_isStream rfl rfl rfl (by decide +kernel) (by rw [hR]; exact ⟨Nat.le_of_ble_eq_true rfl, Nat.le_of_ble_eq_true rfl⟩)) hM hS rfl rfl rfl hl.1 (Nat.le_of_ble_eq_true rfl) dX3_frame_1 (by rw [hR]; exact ⟨Nat.zero_le _, Nat.zero_le _⟩) (fun H locs hM hS => ?_)
  refine mr_eqB (tgt := 20) C0 dX3_frame_4 (by decide) (fun c1 => absurd c1 (by decide)) (fun _ => ?_)
  refine lv_iload_n hx hb dX3_frame_7 rfl (lv_at hl 2 rfl) ?_
  refine lv_if_lt (tgt := 20) hx hb dX3_frame_8 (by decide) (fun c2 => absurd c2 (nI_pos (by omega))) (fun c2 => ?_)
  refine lv_iload_n hx hb dX3_frame_11 rfl (lv_at hl 3 rfl) ?_
  refine lv_iconst (v := nI 0) hx hb dX3_frame_12 (by decide) ?_
  refine lv_iconst (v := nI 3) hx hb dX3_frame_13 (by decide) ?_
  refine mr_callS (As := [.int (nI 3), .int (nI 0), .int (nI 3)]) C0 (ctX3_isWithin (I := I) (J := J) (v := (nI 3)) (lo := (nI 0)) (up := (nI 3)) ) (va_cwS 3 C0.1.2.2.2.2 gX3_frame_X3_isWithin rfl rfl rfl (by decide +kernel) (by rw [hR]; exact ⟨Nat.le_of_ble_eq_true rfl, Nat.le_of_ble_eq_true rfl⟩)) hM hS rfl rfl rfl hl.1 (Nat.le_of_ble_eq_true rfl) dX3_frame_14 (by rw [hR]; exact ⟨Nat.zero_le _, Nat.zero_le _⟩) (fun H locs hM hS => ?_)
  refine mr_neB (tgt := 22) C0 dX3_frame_17 (by decide) (fun c3 => ?_) (fun c3 => absurd c3 (by decide))
  refine lv_aload_n hx hb dX3_frame_22 rfl (lv_at hl 0 rfl) ?_
  refine mr_getr (r := p) (TT := TX3) (N := 7) C0 uX3_frame_X3 hM hX.1.1 hX.1.2 rfl 0 (by decide) rfl kX3_frame_f10 rfl dX3_frame_23 ?_
  refine mr_getr (r := p + 3) (TT := TX2) (N := 10) C0 uX3_frame_X2 hM hX.2.1.1.1 hX.2.1.1.2 rfl 3 (by decide) rfl kX3_frame_f65 rfl dX3_frame_26 ?_
  refine lv_iload_n hx hb dX3_frame_29 rfl (lv_at hl 1 rfl) ?_
  refine mr_aald (t := 0) (C := RX0) (r := p + 4 + 5 * s0) C0 hM hX.2.1.2.2.2.1.1 hX.2.1.2.2.2.1.2 rfl (by decide) (by omega) rfl dX3_frame_30 ?_
  refine lv_astore (lv' := [(4, .ref (p + 4 + 5 * s0)), (0, .ref x), (1, .int (nI s0)), (2, .int (nI k0)), (3, .int (nI 3))]) hx hb dX3_frame_31 hl (by decide) rfl (fun ls hl => ?_)
  refine lv_iload_n hx hb dX3_frame_33 rfl (lv_at hl 3 rfl) ?_
  refine lv_aload hx hb dX3_frame_34 (lv_at hl 0 rfl) ?_
  have hw4 := hW.1 s0 (by omega)
  have hw4b := hw4.2
  refine mr_geti (v := nI (c s0)) (TT := TX0) (N := 5) C0 uX3_frame_X0 hM (hX.2.1.2.2.2.2.1 _ (by omega)).1.1 (hX.2.1.2.2.2.2.1 _ (by omega)).1.2 rfl 4 (by decide) rfl hw4.1 kX3_frame_f69 rfl dX3_frame_36 ?_
  refine mr_ltN (x := k0) (y := (c s0)) (tgt := 45) C0 dX3_frame_39 (by decide) (by omega) (by omega) (fun c5 => ?_) (fun c5 => absurd c5 (by omega))
  refine lv_iload_n hx hb dX3_frame_45 rfl (lv_at hl 4 rfl) ?_
  refine lv_tableOut (tgt := 93) hx hb dX3_frame_46 (by decide) (by decide) ?_
  refine lv_aload_n hx hb dX3_frame_93 rfl (lv_at hl 1 rfl) ?_
  refine lv_iload_n hx hb dX3_frame_94 rfl (lv_at hl 2 rfl) ?_
  refine lv_iload_n hx hb dX3_frame_95 rfl (lv_at hl 3 rfl) ?_
  refine mr_callV (As := [.int (nI s0), .int (nI k0)]) C0 (ctX3_sentBefore (I := I) (J := J) (s0 := s0) (k0 := k0) hX hA hW (by omega) (by omega) hB) (cwV 2 C0.1.2.2.2.2 gX3_frame_X3_sentBefore rfl rfl rfl (by decide +kernel) (by rw [hR]; exact ⟨Nat.le_of_ble_eq_true rfl, Nat.le_of_ble_eq_true rfl⟩)) hM hX.1.1 hX.1.2 rfl rfl hM hS rfl rfl rfl hl.1 (Nat.le_of_ble_eq_true rfl) dX3_frame_96 (by rw [hR]; exact ⟨Nat.zero_le _, Nat.zero_le _⟩) (fun H locs hM hS => ?_)
  skip
  exact mr_iret (v := nI m0) C0 hr hlk hQ hS rfl hM (Nat.le_refl _) (Nat.le_refl _) dX3_frame_99
